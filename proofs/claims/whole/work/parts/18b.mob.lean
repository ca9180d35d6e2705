/-! ===== the model: run; what is told by hand; the image; tapes ===== -/
theorem nI_m1s (t : Nat) : nI t - 1 + 1 = nI t := by rw [Int32.sub_add_cancel]
/-- what the model's loop knows at row r: t runs have begun, the last at rSt (t - 1) -/
def rnI (f : Nat → Bool) (n r t : Nat) (len : Int32) : Prop := fb_ct (chg f) r = t ∧ (t = 0 → r = 0 ∧ len = 0) ∧ (0 < t → rSt f n (t - 1) < r ∧ len = nI (r - rSt f n (t - 1)))
theorem rSt_at {f : Nat → Bool} {n r t : Nat} (hr : r < n) (hc : chg f r = true) (ht : fb_ct (chg f) r = t) : t < runsN f n ∧ rSt f n t = r := by
  have h1 : fb_ct (chg f) (r + 1) = t + 1 := by rw [fb_ct_succ, hc, ht]; rfl
  have h2 : t + 1 ≤ runsN f n := by rw [← h1]; exact fb_ct_mono _ (by omega)
  obtain ⟨s1, s2, s3⟩ := rSt_spec (f := f) (n := n) t (by omega)
  exact ⟨by omega, fb_ct_kth_one s2 hc (by rw [s3, ht])⟩
theorem rSt_end {f : Nat → Bool} {n j : Nat} (h : runsN f n = j + 1) : rEnd f (rSt f n j) n = n := by
  obtain ⟨s1, s2, s3⟩ := rSt_spec (f := f) (n := n) j (by omega)
  obtain ⟨e1, e2, -, -⟩ := rEnd_spec (f := f) s1
  rcases Nat.lt_or_ge (rEnd f (rSt f n j) n) n with q | q
  · exfalso
    have hc := ct_gap e1 s2 (chg_in s1)
    have h1 : fb_ct (chg f) (rEnd f (rSt f n j) n + 1) = j + 2 := by rw [fb_ct_succ, chg_end s1 q, hc, s3]; rfl
    have h2 : j + 2 ≤ runsN f n := by rw [← h1]; exact fb_ct_mono _ (by omega)
    omega
  · omega
section MOB
variable {G : zG} {sh : Nat → Option zSh} {S : zSt} {m n c k j a b : Nat} {w : Wd} {v : Nat → Nat → Nat} {P : Option Value → zSt → Prop}
theorem C_Mo_isOnes (hM : tMo sh m) (hg : gRows S m n v) (hn : n ≤ 120) (h0 : 0 < n) (hc : c < 4) (hk : k < 20) (hv : ∀ j, j < n → ∀ c, c < 4 → v j c < 16) (hj : j < 2 ^ 31) : zD G m_Mo_isOnes 2 sh [.ref m, .int (nI c), .int (nI k), .int (nI j)] S (some (.int (zo (kbits v c k 0 == decide (j % 2 = 0))))) S := by
  obtain ⟨m0, a1, a2, a3, a4, a5, a6, a7, a8, a9, a10, a11, a12, a13, a14, a15, a16, a22⟩ := id hM
  refine s_methD 0 ⟨p_Mo, rfl, Nat.le_of_ble_eq_true rfl⟩ rfl (fun sz => ?_)
  refine z_aload_n dX10_isOnes_0 rfl ?_
  refine z_iconst 0 dX10_isOnes_1 rfl ?_
  refine z_iload_n dX10_isOnes_2 rfl ?_
  refine z_iload_n dX10_isOnes_3 rfl ?_
  refine s_callV1 l_Mo_75 (C_Mo_bit (j := 0) hM hg hn h0 hc hk (hv _ h0 c hc)) m0 dX10_isOnes_4 rfl rfl (Nat.le_of_ble_eq_true rfl) ⟨⟨by decide, by decide⟩, by decide, by decide⟩ ?_
  refine z_iload_n dX10_isOnes_7 rfl ?_
  refine z_iconst 2 dX10_isOnes_8 rfl ?_
  refine z_irem dX10_isOnes_9 (by decide) ?_
  rw [show (2 : Int32) = nI 2 from rfl, pk_rem hj (by decide) (by decide)]
  refine z_if_ne 17 dX10_isOnes_10 (by decide) (fun c10 => ?_) (fun c10 => ?_)
  · have e : ¬ j % 2 = 0 := fun q => c10 (by rw [q]; rfl)
    rw [decide_eq_false e]
    refine z_iconst 0 dX10_isOnes_17 rfl ?_
    refine z_icmp_ne 25 dX10_isOnes_18 (by decide) (fun c18 => ?_) (fun c18 => ?_)
    · have h := c18
      refine z_iconst 0 dX10_isOnes_25 rfl ?_
      refine z_ireturn dX10_isOnes_26 rfl rfl ⟨Nat.le_refl _, Nat.le_refl _⟩ ?_
      refine ⟨congrArg (fun z => some (Value.int z)) ?_, rfl, rfl⟩
      unfold kbits
      revert h
      cases kb k (v 0 c) <;> simp [zo]
    · have h := c18
      refine z_iconst 1 dX10_isOnes_21 rfl ?_
      refine z_goto 26 dX10_isOnes_22 (by decide) ?_
      refine z_ireturn dX10_isOnes_26 rfl rfl ⟨Nat.le_refl _, Nat.le_refl _⟩ ?_
      refine ⟨congrArg (fun z => some (Value.int z)) ?_, rfl, rfl⟩
      unfold kbits
      revert h
      cases kb k (v 0 c) <;> simp [zo]
  · have e : j % 2 = 0 := (nI_eq (b := 0) (by omega) (by decide)).mp c10
    rw [decide_eq_true e]
    refine z_iconst 1 dX10_isOnes_13 rfl ?_
    refine z_goto 18 dX10_isOnes_14 (by decide) ?_
    refine z_icmp_ne 25 dX10_isOnes_18 (by decide) (fun c18 => ?_) (fun c18 => ?_)
    · have h := c18
      refine z_iconst 0 dX10_isOnes_25 rfl ?_
      refine z_ireturn dX10_isOnes_26 rfl rfl ⟨Nat.le_refl _, Nat.le_refl _⟩ ?_
      refine ⟨congrArg (fun z => some (Value.int z)) ?_, rfl, rfl⟩
      unfold kbits
      revert h
      cases kb k (v 0 c) <;> simp [zo]
    · have h := c18
      refine z_iconst 1 dX10_isOnes_21 rfl ?_
      refine z_goto 26 dX10_isOnes_22 (by decide) ?_
      refine z_ireturn dX10_isOnes_26 rfl rfl ⟨Nat.le_refl _, Nat.le_refl _⟩ ?_
      refine ⟨congrArg (fun z => some (Value.int z)) ?_, rfl, rfl⟩
      unfold kbits
      revert h
      cases kb k (v 0 c) <;> simp [zo]
theorem C_Mo_run {p q y : Int32} (hM : tMo sh m) (hR : rMo S m w) (hW : wOK w) (h0 : ¬ (rg p 4 = true ∧ rg q 20 = true ∧ 0 ≤ y) → P (some (.int (-1))) S)
    (h1 : ∀ c k j, c < 4 → k < 20 → j < 2 ^ 31 → p = nI c → q = nI k → y = nI j → P (some (.int (runA (kbits (aV (wA w)) c k) (aN (wA w)) j))) S) : zR G m_Mo_run 3 sh [.ref m, .int p, .int q, .int y] S P := by
  obtain ⟨m0, a1, a2, a3, a4, a5, a6, a7, a8, a9, a10, a11, a12, a13, a14, a15, a16, a22⟩ := id hM
  obtain ⟨g0, gi, ⟨g2, g2q⟩, ⟨g3, g3x⟩, g4⟩ := id hW
  obtain ⟨⟨b1, b2, b3, b4, b5⟩, ⟨e1, e2, e3, e4, e5⟩, eV, eM, eMo, eS, eB⟩ := id g0
  have hv : ∀ j, j < aN (wA w) → ∀ c, c < 4 → aV (wA w) j c < 16 := fun j hj c hc => (eV j hj c hc).2
  have gr := hR.gr hW
  refine s_meth 3 ⟨p_Mo, rfl, Nat.le_of_ble_eq_true rfl⟩ rfl (fun sz => ?_)
  have fin : ∀ c k j att r len z6, c < 4 → k < 20 → j < 2 ^ 31 → p = nI c → q = nI k → y = nI j → ((att < nI j ∧ runsN (kbits (aV (wA w)) c k) (aN (wA w)) ≤ j) ∨ (nI j ≤ att ∧ j < runsN (kbits (aV (wA w)) c k) (aN (wA w)) ∧ rEnd (kbits (aV (wA w)) c k) (rSt (kbits (aV (wA w)) c k) (aN (wA w)) j) (aN (wA w)) = r ∧ len = nI (r - rSt (kbits (aV (wA w)) c k) (aN (wA w)) j))) → zW G m_Mo_run (zRm 3 0 0) (zFm G (zP sh sz P) 0 0) 0 0 97 [some (.ref m), some (.int p), some (.int q), some (.int y), some (.int att), some (.int len), some (.int z6)] [] (zhp sh S) sz := by
    intro c k j att r len z6 hc hk hj hp hq hy hcase
    have hA := h1 c k j hc hk hj hp hq hy
    have hle := runsN_le (kbits (aV (wA w)) c k) (aN (wA w))
    unfold runA at hA
    subst hp
    subst hq
    subst hy
    rcases hcase with ⟨hlt, h3⟩ | ⟨hge, h3, h4, h5⟩
    · rw [if_neg (by omega)] at hA
      refine z_iload dX10_run_97 rfl ?_
      refine z_iload_n dX10_run_99 rfl ?_
      refine z_icmp_ge 106 dX10_run_100 (by decide) (fun c100 => ?_) (fun c100 => ?_)
      · exact absurd hlt (Int32.not_lt.mpr c100)
      · refine z_bipush (-5) dX10_run_103 (by decide) ?_
        refine z_ireturn dX10_run_105 rfl rfl ⟨Nat.le_refl _, Nat.le_refl _⟩ ?_
        exact ⟨rfl, _, rfl, hA⟩
    · rw [if_pos h3, h4] at hA
      have h6 := rSt_par (f := kbits (aV (wA w)) c k) (n := aN (wA w)) j h3
      refine z_iload dX10_run_97 rfl ?_
      refine z_iload_n dX10_run_99 rfl ?_
      refine z_icmp_ge 106 dX10_run_100 (by decide) (fun c100 => ?_) (fun c100 => ?_)
      · refine z_aload_n dX10_run_106 rfl ?_
        refine z_iload_n dX10_run_107 rfl ?_
        refine z_iload_n dX10_run_108 rfl ?_
        refine z_iload_n dX10_run_109 rfl ?_
        refine s_callV1 l_Mo_82 (C_Mo_isOnes hM gr b1 (by omega) hc hk hv hj) m0 dX10_run_110 rfl rfl (Nat.le_of_ble_eq_true rfl) ⟨⟨by decide, by decide⟩, by decide, by decide⟩ ?_
        refine z_istore (lv' := [_, _, _, _, _, _, _]) dX10_run_113 (by decide) rfl ?_
        refine z_iload dX10_run_115 rfl ?_
        refine z_if_eq 128 dX10_run_117 (by decide) (fun c117 => ?_) (fun c117 => ?_)
        · rw [if_neg (fun z => zoT (h6.symm.trans z) c117), ← h5] at hA
          refine z_iload dX10_run_128 rfl ?_
          refine z_ireturn dX10_run_130 rfl rfl ⟨Nat.le_refl _, Nat.le_refl _⟩ ?_
          exact ⟨rfl, _, rfl, hA⟩
        · rw [if_pos (h6.trans (zo_ne0.mp c117)), ← h5] at hA
          refine z_bipush (-10) dX10_run_120 (by decide) ?_
          refine z_iload dX10_run_122 rfl ?_
          refine z_isub dX10_run_124 ?_
          refine z_goto 130 dX10_run_125 (by decide) ?_
          refine z_ireturn dX10_run_130 rfl rfl ⟨Nat.le_refl _, Nat.le_refl _⟩ ?_
          exact ⟨rfl, _, rfl, hA⟩
      · exact absurd hge c100
  have loop : ∀ c k j, c < 4 → k < 20 → j < 2 ^ 31 → p = nI c → q = nI k → y = nI j → ∀ d r t len, aN (wA w) - r = d → r ≤ aN (wA w) → t ≤ j + 1 → rnI (kbits (aV (wA w)) c k) (aN (wA w)) r t len → zW G m_Mo_run (zRm 3 0 0) (zFm G (zP sh sz P) 0 0) 0 0 34 [some (.ref m), some (.int p), some (.int q), some (.int y), some (.int (nI t - 1)), some (.int len), some (.int (nI r))] [] (zhp sh S) sz := by
    intro c k j hc hk hj hp hq hy d
    have fin2 := fun t r len z6 => fin c k j t r len z6 hc hk hj hp hq hy
    subst hp
    subst hq
    subst hy
    induction d with
    | zero =>
      intro r t len g1 g2 g3 g4
      have hr : r = aN (wA w) := by omega
      obtain ⟨i1, i2, i3⟩ := g4
      subst hr
      refine z_iload dX10_run_34 rfl ?_
      refine z_aload_n dX10_run_36 rfl ?_
      refine s_getr f_Mo_11 dX10_run_37 (by assumption) rfl ?_
      refine z_sipush 480 dX10_run_40 (by decide) ?_
      refine s_iald dX10_run_43 (by assumption) (by first | assumption | exact vp_in_nI (by omega) (by omega) | (unfold vp_in; decide)) ?_
      rw [show (480 : Int32).toNatClampNeg = 480 from rfl, gr.1]
      refine z_icmp_ge 97 dX10_run_44 (by decide) (fun c44 => ?_) (fun c44 => ?_)
      · refine fin2 _ (aN (wA w)) len _ ?_
        rcases Nat.lt_or_ge j t with q | q
        · have ht : t = j + 1 := by omega
          subst ht
          obtain ⟨-, i5⟩ := i3 (by omega)
          rw [Nat.add_sub_cancel] at i5
          rw [nI_pred]
          exact Or.inr ⟨Int32.le_refl _, by unfold runsN; omega, rSt_end i1, i5⟩
        · refine Or.inl ⟨?_, by unfold runsN; omega⟩
          cases t with
          | zero =>
            rw [show nI 0 - 1 = -1 by decide]
            exact Int32.lt_of_lt_of_le (show (-1 : Int32) < 0 by decide) (nI_pos' hj)
          | succ t => rw [nI_pred]; exact nI_lt (by omega) hj
      · exact absurd (nI_le (Nat.le_refl _) (by omega)) c44
    | succ d ih =>
      intro r t len g1 g2 g3 g4
      obtain ⟨i1, i2, i3⟩ := g4
      have htl : t ≤ r := by rw [← i1]; exact fb_ct_le _ _
      have hgo : chg (kbits (aV (wA w)) c k) r = true → zW G m_Mo_run (zRm 3 0 0) (zFm G (zP sh sz P) 0 0) 0 0 73 [some (.ref m), some (.int (nI c)), some (.int (nI k)), some (.int (nI j)), some (.int (nI t - 1)), some (.int len), some (.int (nI r))] [] (zhp sh S) sz := by
        intro hch
        obtain ⟨s1, s2⟩ := rSt_at (show r < aN (wA w) by omega) hch i1
        refine z_iinc (lv' := [_, _, _, _, _, _, _]) 1 dX10_run_73 rfl (by decide) rfl rfl ?_
        rw [show nI t - 1 + 1 = nI t from nI_m1s t]
        refine z_iload dX10_run_76 rfl ?_
        refine z_iload_n dX10_run_78 rfl ?_
        refine z_icmp_le 85 dX10_run_79 (by decide) (fun c79 => ?_) (fun c79 => ?_)
        · have htj := i_le (by omega) hj c79
          refine z_iconst 0 dX10_run_85 rfl ?_
          refine z_istore (lv' := [_, _, _, _, _, _, _]) dX10_run_86 (by decide) rfl ?_
          refine z_iinc (lv' := [_, _, _, _, _, _, _]) 1 dX10_run_88 rfl (by decide) rfl rfl ?_
          refine z_iinc (lv' := [_, _, _, _, _, _, _]) 1 dX10_run_91 rfl (by decide) rfl rfl ?_
          refine z_goto 34 dX10_run_94 (by decide) ?_
          rw [nI_1, show (0 : Int32) + 1 = nI 1 from rfl]
          have hx := ih (r + 1) (t + 1) (nI 1) (by omega) (by omega) (by omega) ⟨by rw [fb_ct_succ, hch, i1]; rfl, fun e => by omega, fun _ => ⟨by rw [Nat.add_sub_cancel, s2]; omega, by rw [Nat.add_sub_cancel, s2]; congr 1; omega⟩⟩
          rw [nI_pred] at hx
          exact hx
        · have htj : t = j + 1 := by have := i_nle hj c79; omega
          refine z_goto 97 dX10_run_82 (by decide) ?_
          subst htj
          obtain ⟨i4, i5⟩ := i3 (by omega)
          rw [Nat.add_sub_cancel] at i5
          exact fin2 _ r len (nI r) (Or.inr ⟨nI_le (by omega) (by omega), by omega, s2, i5⟩)
      refine z_iload dX10_run_34 rfl ?_
      refine z_aload_n dX10_run_36 rfl ?_
      refine s_getr f_Mo_11 dX10_run_37 (by assumption) rfl ?_
      refine z_sipush 480 dX10_run_40 (by decide) ?_
      refine s_iald dX10_run_43 (by assumption) (by first | assumption | exact vp_in_nI (by omega) (by omega) | (unfold vp_in; decide)) ?_
      rw [show (480 : Int32).toNatClampNeg = 480 from rfl, gr.1]
      refine z_icmp_ge 97 dX10_run_44 (by decide) (fun c44 => ?_) (fun c44 => ?_)
      · exact absurd c44 (nI_ge (by omega) (by omega))
      · refine z_iload dX10_run_47 rfl ?_
        refine z_if_eq 73 dX10_run_49 (by decide) (fun c49 => ?_) (fun c49 => ?_)
        · have hr0 : r = 0 := (nI_eq (b := 0) (by omega) (by decide)).mp c49
          exact hgo (by unfold chg; rw [decide_eq_true hr0]; rfl)
        · have hr0 : ¬ r = 0 := fun q => c49 (by rw [q]; rfl)
          obtain ⟨r', rfl⟩ : ∃ r', r = r' + 1 := ⟨r - 1, by omega⟩
          refine z_aload_n dX10_run_52 rfl ?_
          refine z_iload dX10_run_53 rfl ?_
          refine z_iload_n dX10_run_55 rfl ?_
          refine z_iload_n dX10_run_56 rfl ?_
          refine s_callV1 l_Mo_75 (C_Mo_bit hM gr b1 (by omega) hc hk (hv _ (by omega) c hc)) m0 dX10_run_57 rfl rfl (Nat.le_of_ble_eq_true rfl) ⟨⟨by decide, by decide⟩, by decide, by decide⟩ ?_
          refine z_aload_n dX10_run_60 rfl ?_
          refine z_iload dX10_run_61 rfl ?_
          refine z_iconst 1 dX10_run_63 rfl ?_
          refine z_isub dX10_run_64 ?_
          rw [nI_pred]
          refine z_iload_n dX10_run_65 rfl ?_
          refine z_iload_n dX10_run_66 rfl ?_
          refine s_callV1 l_Mo_75 (C_Mo_bit hM gr b1 (by omega) hc hk (hv _ (by omega) c hc)) m0 dX10_run_67 rfl rfl (Nat.le_of_ble_eq_true rfl) ⟨⟨by decide, by decide⟩, by decide, by decide⟩ ?_
          refine z_icmp_eq 88 dX10_run_70 (by decide) (fun c70 => ?_) (fun c70 => ?_)
          · have hch : chg (kbits (aV (wA w)) c k) (r' + 1) = false := by
              unfold chg kbits
              rw [decide_eq_false hr0, Nat.add_sub_cancel, zo_inj.mp c70]
              simp
            have ht0 : 0 < t := by
              rcases Nat.eq_zero_or_pos t with q | q
              · exact absurd (i2 q).1 hr0
              · exact q
            obtain ⟨i4, i5⟩ := i3 ht0
            refine z_iinc (lv' := [_, _, _, _, _, _, _]) 1 dX10_run_88 rfl (by decide) rfl rfl ?_
            refine z_iinc (lv' := [_, _, _, _, _, _, _]) 1 dX10_run_91 rfl (by decide) rfl rfl ?_
            refine z_goto 34 dX10_run_94 (by decide) ?_
            rw [nI_1, i5, nI_1]
            exact ih (r' + 1 + 1) t _ (by omega) (by omega) g3 ⟨by rw [fb_ct_succ, hch, i1]; rfl, fun e => by omega, fun _ => ⟨by omega, by congr 1; omega⟩⟩
          · refine hgo ?_
            unfold chg kbits
            rw [Nat.add_sub_cancel, decide_eq_false hr0, Bool.false_or]
            exact bne_iff_ne.mpr (fun q => c70 (zo_inj.mpr q))
  refine z_iload_n dX10_run_0 rfl ?_
  refine z_iconst 0 dX10_run_1 rfl ?_
  refine z_iconst 3 dX10_run_2 rfl ?_
  refine s_callS1 l_Mo_63 (C_Mo_in0 (n := 4) (by decide) (by decide)) dX10_run_3 rfl rfl (Nat.le_of_ble_eq_true rfl) ⟨⟨by decide, by decide⟩, by decide, by decide⟩ ?_
  refine z_if_eq 23 dX10_run_6 (by decide) (fun c6 => ?_) (fun c6 => ?_)
  · refine z_iconst (-1) dX10_run_23 rfl ?_
    refine z_ireturn dX10_run_24 rfl rfl ⟨Nat.le_refl _, Nat.le_refl _⟩ ?_
    first
      | exact ⟨rfl, _, rfl, h0 (fun q => zoT q.1 c6)⟩
      | exact ⟨rfl, _, rfl, h0 (fun q => zoT q.2.1 c16)⟩
      | exact ⟨rfl, _, rfl, h0 (fun q => c20 q.2.2)⟩
      | skip
  · refine z_iload_n dX10_run_9 rfl ?_
    refine z_iconst 0 dX10_run_10 rfl ?_
    refine z_bipush 19 dX10_run_11 (by decide) ?_
    refine s_callS1 l_Mo_63 (C_Mo_in0 (n := 20) (by decide) (by decide)) dX10_run_13 rfl rfl (Nat.le_of_ble_eq_true rfl) ⟨⟨by decide, by decide⟩, by decide, by decide⟩ ?_
    refine z_if_eq 23 dX10_run_16 (by decide) (fun c16 => ?_) (fun c16 => ?_)
    · refine z_iconst (-1) dX10_run_23 rfl ?_
      refine z_ireturn dX10_run_24 rfl rfl ⟨Nat.le_refl _, Nat.le_refl _⟩ ?_
      first
        | exact ⟨rfl, _, rfl, h0 (fun q => zoT q.1 c6)⟩
        | exact ⟨rfl, _, rfl, h0 (fun q => zoT q.2.1 c16)⟩
        | exact ⟨rfl, _, rfl, h0 (fun q => c20 q.2.2)⟩
        | skip
    · refine z_iload_n dX10_run_19 rfl ?_
      refine z_if_ge 25 dX10_run_20 (by decide) (fun c20 => ?_) (fun c20 => ?_)
      · refine z_iconst (-1) dX10_run_25 rfl ?_
        refine z_istore (lv' := [_, _, _, _, _, _, _]) dX10_run_26 (by decide) rfl ?_
        refine z_iconst 0 dX10_run_28 rfl ?_
        refine z_istore (lv' := [_, _, _, _, _, _, _]) dX10_run_29 (by decide) rfl ?_
        refine z_iconst 0 dX10_run_31 rfl ?_
        refine z_istore (lv' := [_, _, _, _, _, _, _]) dX10_run_32 (by decide) rfl ?_
        obtain ⟨c, hc, hp⟩ := rg_t (by decide) (zo_ne0.mp c6)
        obtain ⟨k, hk, hq⟩ := rg_t (by decide) (zo_ne0.mp c16)
        obtain ⟨j, hj, hy⟩ := nI_of (Int32.not_lt.mpr c20)
        exact loop c k j hc hk hj hp hq hy (aN (wA w)) 0 0 0 rfl (Nat.zero_le _) (Nat.zero_le _) ⟨rfl, fun _ => ⟨rfl, rfl⟩, fun e => absurd e (Nat.lt_irrefl _)⟩
      · refine z_iconst (-1) dX10_run_23 rfl ?_
        refine z_ireturn dX10_run_24 rfl rfl ⟨Nat.le_refl _, Nat.le_refl _⟩ ?_
        first
          | exact ⟨rfl, _, rfl, h0 (fun q => zoT q.1 c6)⟩
          | exact ⟨rfl, _, rfl, h0 (fun q => zoT q.2.1 c16)⟩
          | exact ⟨rfl, _, rfl, h0 (fun q => c20 q.2.2)⟩
          | skip
end MOB

