/-! ===== the model: ends, books, judging, shifts ===== -/
section MOI
variable {G : zG} {sh : Nat → Option zSh} {S : zSt} {m n c k j a b i q N : Nat} {w : Wd} {v : Nat → Nat → Nat} {nd : Nd} {stk : Nat → List Nat} {P : Option Value → zSt → Prop}
theorem C_Mo_ends {p r : Int32} (hM : tMo sh m) (hR : rMo S m w) (hW : wOK w) (h0 : ¬ (rg p (wq w) = true ∧ rg r 2 = true) → P (some (.int (-1))) S)
    (h1 : ∀ k S', k < wq w → p = nI k → rg r 2 = true → frS S (fun b => b = m + 1 ∨ b = m + 2) S' → (∀ i, i < 543 → za S' (m + 1) i = wg w i) → P (some (.int (if r = 0 then nI (fb_ct (eI w k).1 (eR w).1) else nI (runsN (eI w k).1 (eR w).1)))) S') : zR G m_Mo_ends 60 sh [.ref m, .int p, .int r] S P := by
  obtain ⟨m0, a1, a2, a3, a4, a5, a6, a7, a8, a9, a10, a11, a12, a13, a14, a15, a16, a22⟩ := id hM
  obtain ⟨k1, k2, k3, ⟨k4, kr⟩, ⟨kL, ktx⟩, kt⟩ := id hR
  obtain ⟨g0, gi, ⟨g2, g2q⟩, ⟨g3, g3x⟩, g4⟩ := id hW
  obtain ⟨⟨b1, b2, b3, b4, b5⟩, ⟨e1, e2, e3, e4, e5⟩, eV, eM, eMo, eS, eB⟩ := id g0
  have hv : ∀ j, j < aN (wA w) → ∀ c, c < 4 → aV (wA w) j c < 16 := fun j hj c hc => (eV j hj c hc).2
  have gr := hR.gr hW
  have gs := (k1 505 (by decide)).trans e4
  have e505 : (505 : Int32).toNatClampNeg = 505 := rfl
  have gmk : gMk S m (wA w) := ⟨(k1 481 (by decide)).trans e2, fun i hi => (k1 _ (by omega)).trans (eM i hi).1⟩
  have hok0 : okRV (aN (wA w), aV (wA w)) := ⟨b1, hv⟩
  have hA : aM (wA w) ≤ 10 ∧ ∀ i, i < aM (wA w) → aT (wA w) i ≤ 120 := ⟨b2, fun i hi => Nat.le_trans (eM i hi).2 b1⟩
  have hokR := pRun_ok (A := wA w) (ga := wg w) hok0 (aP (wA w))
  have hokR1 : (eR w).1 ≤ 120 := hokR.1
  refine s_meth 1 ⟨p_Mo, rfl, Nat.le_of_ble_eq_true rfl⟩ rfl (fun sz => ?_)
  have loop : ∀ k, k < wq w → p = nI k → rg r 2 = true → ∀ d i S', aP (wA w) - i = d → i ≤ aP (wA w) → frS S (fun b => b = m + 1 ∨ b = m + 2) S' → (∀ i, i < 543 → za S' (m + 2) i = wg w i) → gRows S' m (pRun (wA w) (wg w) i).1 (pRun (wA w) (wg w) i).2 → gMk S' m (wA w) → zW G m_Mo_ends (zRm 60 0 0) (zFm G (zP sh sz P) 0 0) 0 0 32 [some (.ref m), some (.int p), some (.int r), some (.int (nI i))] [] (zhp sh S') sz := by
    intro k hk hp hr d
    subst hp
    induction d with
    | zero =>
      intro i S' g1 g2' g3' g4' g5 g6
      have hi : i = aP (wA w) := by omega
      subst hi
      have hQ := hR.mq hW hk
      have hQ' : mQ S' m (eR w).1 (eR w).2 k (wN w k) (wnd w k) (stkF (wnd w k)) := ⟨g5, hokR1, hokR.2, hQ.2.2.2.1.fr g3' (fun b b1 b2 => by omega), hQ.2.2.2.2⟩
      have hN0 := (g2q k hk).1
      have hN50 := (g2q k hk).2.1
      have r4 : za S' (m + 4) k = nI (60 * k + (wN w k - 1)) := (congrFun (g3' _ (by omega)).2.2.1 k).trans (kr k hk).1
      have fin : ∀ X, X = (if r = 0 then nI (fb_ct (eI w k).1 (eR w).1) else nI (runsN (eI w k).1 (eR w).1)) → zW G m_Mo_ends (zRm 60 0 0) (zFm G (zP sh sz P) 0 0) 0 0 107 [some (.ref m), some (.int (nI k)), some (.int r), some (.int (nI (aP (wA w))))] [.int X] (zhp sh S') sz := by
        intro X hX
        refine z_istore_n (lv' := [_, _, _, _]) dX10_ends_107 (by decide) rfl ?_
        refine z_aload_n dX10_ends_108 rfl ?_
        refine s_getr f_Mo_15 dX10_ends_109 (by assumption) rfl ?_
        refine z_aload_n dX10_ends_112 rfl ?_
        refine s_getr f_Mo_11 dX10_ends_113 (by assumption) rfl ?_
        refine n_callS0 l_Mo_188 (C_Mo_copy a2 a1 (by omega)) dX10_ends_116 rfl rfl (Nat.le_of_ble_eq_true rfl) (rrm (by omega) (by decide)) (fun S116 q116 => ?_)
        refine z_iload_n dX10_ends_119 rfl ?_
        refine z_ireturn dX10_ends_120 rfl rfl ⟨Nat.le_refl _, Nat.le_refl _⟩ ?_
        rw [hX]
        exact ⟨rfl, _, rfl, h1 k S116 hk rfl hr (g3'.trans (q116.1.weaken (fun b hb => Or.inl hb))) (fun i hi => (q116.2 i hi).trans (g4' i hi))⟩
      refine z_iload_n dX10_ends_32 rfl ?_
      refine z_aload_n dX10_ends_33 rfl ?_
      refine s_getr f_Mo_15 dX10_ends_34 (by assumption) rfl ?_
      refine z_sipush 505 dX10_ends_37 (by decide) ?_
      refine s_iald dX10_ends_40 (by assumption) (by first | assumption | exact vp_in_nI (by omega) (by omega) | (unfold vp_in; decide)) ?_
      rw [e505, g4' 505 (by decide), e4]
      refine z_icmp_ge 80 dX10_ends_41 (by decide) (fun c41 => ?_) (fun c41 => ?_)
      · refine z_iload_n dX10_ends_80 rfl ?_
        refine z_if_ne 97 dX10_ends_81 (by decide) (fun c81 => ?_) (fun c81 => ?_)
        · refine z_aload_n dX10_ends_97 rfl ?_
          refine z_aload_n dX10_ends_98 rfl ?_
          refine s_getr f_Mo_21 dX10_ends_99 (by assumption) rfl ?_
          refine z_iload_n dX10_ends_102 rfl ?_
          refine s_iald dX10_ends_103 a4 (vp_in_nI (by omega) (by decide)) ?_
          rw [nI_clamp (by omega), r4]
          refine s_callV1 l_Mo_153 (C_Mo_resultRuns (i := wN w k - 1) hM hQ' (by omega)) m0 dX10_ends_104 rfl rfl (Nat.le_of_ble_eq_true rfl) (rrm (by omega) (by decide)) ?_
          first
            | exact fin _ (if_pos c81).symm
            | exact fin _ (if_neg c81).symm
            | skip
        · refine z_aload_n dX10_ends_84 rfl ?_
          refine z_aload_n dX10_ends_85 rfl ?_
          refine s_getr f_Mo_21 dX10_ends_86 (by assumption) rfl ?_
          refine z_iload_n dX10_ends_89 rfl ?_
          refine s_iald dX10_ends_90 a4 (vp_in_nI (by omega) (by decide)) ?_
          rw [nI_clamp (by omega), r4]
          refine s_callV1 l_Mo_166 (C_Mo_resultMany (i := wN w k - 1) hM hQ' (by omega)) m0 dX10_ends_91 rfl rfl (Nat.le_of_ble_eq_true rfl) (rrm (by omega) (by decide)) ?_
          refine z_goto 107 dX10_ends_94 (by decide) ?_
          first
            | exact fin _ (if_pos c81).symm
            | exact fin _ (if_neg c81).symm
            | skip
      · exact absurd (nI_le (Nat.le_refl _) (by omega)) c41
    | succ d ih =>
      intro i S' g1 g2' g3' g4' g5 g6
      have st : pRun (wA w) (wg w) (i + 1) = pStep (wA w) (wg w (506 + 2 * i)) (wg w (506 + 2 * i + 1)) (pRun (wA w) (wg w) i) := rfl
      refine z_iload_n dX10_ends_32 rfl ?_
      refine z_aload_n dX10_ends_33 rfl ?_
      refine s_getr f_Mo_15 dX10_ends_34 (by assumption) rfl ?_
      refine z_sipush 505 dX10_ends_37 (by decide) ?_
      refine s_iald dX10_ends_40 (by assumption) (by first | assumption | exact vp_in_nI (by omega) (by omega) | (unfold vp_in; decide)) ?_
      rw [e505, g4' 505 (by decide), e4]
      refine z_icmp_ge 80 dX10_ends_41 (by decide) (fun c41 => ?_) (fun c41 => ?_)
      · exact absurd c41 (nI_ge (by omega) (by omega))
      · refine z_aload_n dX10_ends_44 rfl ?_
        refine z_aload_n dX10_ends_45 rfl ?_
        refine s_getr f_Mo_15 dX10_ends_46 (by assumption) rfl ?_
        refine z_sipush 506 dX10_ends_49 (by decide) ?_
        refine z_iconst 2 dX10_ends_52 rfl ?_
        refine z_iload_n dX10_ends_53 rfl ?_
        refine z_imul dX10_ends_54 ?_
        refine z_iadd dX10_ends_55 ?_
        rw [nI21, show (506 : Int32) = nI 506 from rfl, nI_add]
        refine s_iald dX10_ends_56 a2 (vp_in_nI (by omega) (by decide)) ?_
        rw [nI_clamp (by omega), g4' _ (by omega)]
        refine z_aload_n dX10_ends_57 rfl ?_
        refine s_getr f_Mo_15 dX10_ends_58 (by assumption) rfl ?_
        refine z_sipush 506 dX10_ends_61 (by decide) ?_
        refine z_iconst 2 dX10_ends_64 rfl ?_
        refine z_iload_n dX10_ends_65 rfl ?_
        refine z_imul dX10_ends_66 ?_
        refine z_iadd dX10_ends_67 ?_
        rw [nI21, show (506 : Int32) = nI 506 from rfl, nI_add]
        refine z_iconst 1 dX10_ends_68 rfl ?_
        refine z_iadd dX10_ends_69 ?_
        rw [nI_1]
        refine s_iald dX10_ends_70 a2 (vp_in_nI (by omega) (by decide)) ?_
        rw [nI_clamp (by omega), g4' _ (by omega)]
        refine n_callV0 l_Mo_192 (C_Mo_does hM g5 (pRun_ok hok0 i) g6 hA) m0 dX10_ends_71 rfl rfl (Nat.le_of_ble_eq_true rfl) (rrm (by omega) (by decide)) (fun S71 q71 => ?_)
        refine z_iinc (lv' := [_, _, _, _]) 1 dX10_ends_74 rfl (by decide) rfl rfl ?_
        refine z_goto 32 dX10_ends_77 (by decide) ?_
        rw [nI_1]
        exact ih (i + 1) _ (by omega) (by omega) (g3'.trans (q71.1.weaken (fun b hb => Or.inl hb))) (fun j hj => (congrFun (q71.1 _ (by omega)).2.2.1 j).trans (g4' j hj)) q71.2.1 q71.2.2
  refine z_aload_n dX10_ends_0 rfl ?_
  refine z_iload_n dX10_ends_1 rfl ?_
  refine s_callV1 l_Mo_163 (C_Mo_isQuery hM k4 (by omega)) m0 dX10_ends_2 rfl rfl (Nat.le_of_ble_eq_true rfl) (rrm (by omega) (by decide)) ?_
  refine z_if_eq 17 dX10_ends_5 (by decide) (fun c5 => ?_) (fun c5 => ?_)
  · refine z_iconst (-1) dX10_ends_17 rfl ?_
    refine z_ireturn dX10_ends_18 rfl rfl ⟨Nat.le_refl _, Nat.le_refl _⟩ ?_
    first
      | exact ⟨rfl, _, rfl, h0 (fun q => zoT q.1 c5)⟩
      | exact ⟨rfl, _, rfl, h0 (fun q => zoT q.2 c14)⟩
      | skip
  · refine z_iload_n dX10_ends_8 rfl ?_
    refine z_iconst 0 dX10_ends_9 rfl ?_
    refine z_iconst 1 dX10_ends_10 rfl ?_
    refine s_callS1 l_Mo_63 (C_Mo_in0 (n := 2) (by decide) (by decide)) dX10_ends_11 rfl rfl (Nat.le_of_ble_eq_true rfl) (rrm (by omega) (by decide)) ?_
    refine z_if_ne 19 dX10_ends_14 (by decide) (fun c14 => ?_) (fun c14 => ?_)
    · obtain ⟨k, hk, hp⟩ := rg_t (by omega) (zo_ne0.mp c5)
      refine z_aload_n dX10_ends_19 rfl ?_
      refine s_getr f_Mo_11 dX10_ends_20 (by assumption) rfl ?_
      refine z_aload_n dX10_ends_23 rfl ?_
      refine s_getr f_Mo_15 dX10_ends_24 (by assumption) rfl ?_
      refine n_callS0 l_Mo_188 (C_Mo_copy a1 a2 (by omega)) dX10_ends_27 rfl rfl (Nat.le_of_ble_eq_true rfl) (rrm (by omega) (by decide)) (fun S27 q27 => ?_)
      refine z_iconst 0 dX10_ends_30 rfl ?_
      refine z_istore_n (lv' := [_, _, _, _]) dX10_ends_31 (by decide) rfl ?_
      exact loop k hk hp (zo_ne0.mp c14) (aP (wA w)) 0 S27 rfl (Nat.zero_le _) (q27.1.weaken (fun b hb => Or.inr hb)) (fun i hi => (q27.2 i hi).trans (k1 i hi)) (gr.fr q27.1 (by omega)) ⟨(congrFun (q27.1 _ (by omega)).2.2.1 _).trans gmk.1, fun i hi => (congrFun (q27.1 _ (by omega)).2.2.1 _).trans (gmk.2 i hi)⟩
    · refine z_iconst (-1) dX10_ends_17 rfl ?_
      refine z_ireturn dX10_ends_18 rfl rfl ⟨Nat.le_refl _, Nat.le_refl _⟩ ?_
      first
        | exact ⟨rfl, _, rfl, h0 (fun q => zoT q.1 c5)⟩
        | exact ⟨rfl, _, rfl, h0 (fun q => zoT q.2 c14)⟩
        | skip
theorem C_Mo_looked (hM : tMo sh m) (hR : rMo S m w) (hW : wOK w) (h1 : P (some (.int (ffN (lkP w) (aB (wA w)) 0))) S) : zR G m_Mo_looked 60 sh [.ref m] S P := by
  obtain ⟨m0, a1, a2, a3, a4, a5, a6, a7, a8, a9, a10, a11, a12, a13, a14, a15, a16, a22⟩ := id hM
  obtain ⟨k1, k2, k3, ⟨k4, kr⟩, ⟨kL, ktx⟩, kt⟩ := id hR
  obtain ⟨g0, gi, ⟨g2, g2q⟩, ⟨g3, g3x⟩, g4⟩ := id hW
  obtain ⟨⟨b1, b2, b3, b4, b5⟩, ⟨e1, e2, e3, e4, e5⟩, eV, eM, eMo, eS, eB⟩ := id g0
  have hv : ∀ j, j < aN (wA w) → ∀ c, c < 4 → aV (wA w) j c < 16 := fun j hj c hc => (eV j hj c hc).2
  have gs := (k1 526 (by decide)).trans e5
  refine s_meth 1 ⟨p_Mo, rfl, Nat.le_of_ble_eq_true rfl⟩ rfl (fun sz => ?_)
  have loop : ∀ d i, aB (wA w) - i = d → i ≤ aB (wA w) → ffN (lkP w) d i = ffN (lkP w) (aB (wA w)) 0 → zW G m_Mo_looked (zRm 60 0 0) (zFm G (zP sh sz P) 0 0) 0 0 2 [some (.ref m), some (.int (nI i))] [] (zhp sh S) sz := by
    intro d
    induction d with
    | zero =>
      intro i f1 f2 f3
      have hi : i = aB (wA w) := by omega
      have hA := h1
      rw [← f3] at hA
      subst hi
      refine z_iload_n dX10_looked_2 rfl ?_
      refine z_aload_n dX10_looked_3 rfl ?_
      refine s_getr f_Mo_11 dX10_looked_4 (by assumption) rfl ?_
      refine z_sipush 526 dX10_looked_7 (by decide) ?_
      refine s_iald dX10_looked_10 (by assumption) (by first | assumption | exact vp_in_nI (by omega) (by omega) | (unfold vp_in; decide)) ?_
      rw [show (526 : Int32).toNatClampNeg = 526 from rfl, gs]
      refine z_icmp_ge 60 dX10_looked_11 (by decide) (fun c11 => ?_) (fun c11 => ?_)
      · refine z_bipush (-5) dX10_looked_60 (by decide) ?_
        refine z_ireturn dX10_looked_62 rfl rfl ⟨Nat.le_refl _, Nat.le_refl _⟩ ?_
        exact ⟨rfl, _, rfl, hA⟩
      · exact absurd (nI_le (Nat.le_refl _) (by omega)) c11
    | succ d ih =>
      intro i f1 f2 f3
      obtain ⟨k, hk, ek⟩ := eB i (by omega)
      have hQ := hR.mq hW hk
      have hN0 := (g2q k hk).1
      have hN50 := (g2q k hk).2.1
      have hlk : lkP w i = decide (¬ nI (qct w k) = wg w (527 + 2 * i + 1)) := by unfold lkP; rw [ek, nI_clamp (by omega)]
      have st : ffN (lkP w) (d + 1) i = if lkP w i = true then nI i else ffN (lkP w) d (i + 1) := rfl
      refine z_iload_n dX10_looked_2 rfl ?_
      refine z_aload_n dX10_looked_3 rfl ?_
      refine s_getr f_Mo_11 dX10_looked_4 (by assumption) rfl ?_
      refine z_sipush 526 dX10_looked_7 (by decide) ?_
      refine s_iald dX10_looked_10 (by assumption) (by first | assumption | exact vp_in_nI (by omega) (by omega) | (unfold vp_in; decide)) ?_
      rw [show (526 : Int32).toNatClampNeg = 526 from rfl, gs]
      refine z_icmp_ge 60 dX10_looked_11 (by decide) (fun c11 => ?_) (fun c11 => ?_)
      · exact absurd c11 (nI_ge (by omega) (by omega))
      · refine z_aload_n dX10_looked_14 rfl ?_
        refine z_aload_n dX10_looked_15 rfl ?_
        refine s_getr f_Mo_21 dX10_looked_16 (by assumption) rfl ?_
        refine z_aload_n dX10_looked_19 rfl ?_
        refine s_getr f_Mo_11 dX10_looked_20 (by assumption) rfl ?_
        refine z_sipush 527 dX10_looked_23 (by decide) ?_
        refine z_iconst 2 dX10_looked_26 rfl ?_
        refine z_iload_n dX10_looked_27 rfl ?_
        refine z_imul dX10_looked_28 ?_
        refine z_iadd dX10_looked_29 ?_
        rw [nI21, show (527 : Int32) = nI 527 from rfl, nI_add]
        refine s_iald dX10_looked_30 a1 (vp_in_nI (by omega) (by decide)) ?_
        rw [nI_clamp (by omega), k1 _ (by omega), ek]
        refine s_iald dX10_looked_31 a4 (vp_in_nI (by omega) (by decide)) ?_
        rw [nI_clamp (by omega), (kr k hk).1]
        refine s_callV1 l_Mo_166 (C_Mo_resultMany (i := wN w k - 1) hM hQ (by omega)) m0 dX10_looked_32 rfl rfl (Nat.le_of_ble_eq_true rfl) (rrm (by omega) (by decide)) ?_
        refine z_aload_n dX10_looked_35 rfl ?_
        refine s_getr f_Mo_11 dX10_looked_36 (by assumption) rfl ?_
        refine z_sipush 527 dX10_looked_39 (by decide) ?_
        refine z_iconst 2 dX10_looked_42 rfl ?_
        refine z_iload_n dX10_looked_43 rfl ?_
        refine z_imul dX10_looked_44 ?_
        refine z_iadd dX10_looked_45 ?_
        rw [nI21, show (527 : Int32) = nI 527 from rfl, nI_add]
        refine z_iconst 1 dX10_looked_46 rfl ?_
        refine z_iadd dX10_looked_47 ?_
        rw [nI_1]
        refine s_iald dX10_looked_48 a1 (vp_in_nI (by omega) (by decide)) ?_
        rw [nI_clamp (by omega), k1 _ (by omega)]
        refine z_icmp_eq 54 dX10_looked_49 (by decide) (fun c49 => ?_) (fun c49 => ?_)
        · rw [if_neg (by rw [hlk]; simpa using c49)] at st
          refine z_iinc (lv' := [_, _]) 1 dX10_looked_54 rfl (by decide) rfl rfl ?_
          refine z_goto 2 dX10_looked_57 (by decide) ?_
          rw [nI_1]
          exact ih (i + 1) (by omega) (by omega) (st.symm.trans f3)
        · rw [if_pos (by rw [hlk]; simpa using c49)] at st
          refine z_iload_n dX10_looked_52 rfl ?_
          refine z_ireturn dX10_looked_53 rfl rfl ⟨Nat.le_refl _, Nat.le_refl _⟩ ?_
          have hA := h1
          rw [← f3, st] at hA
          exact ⟨rfl, _, rfl, hA⟩
  refine z_iconst 0 dX10_looked_0 rfl ?_
  refine z_istore_n (lv' := [_, _]) dX10_looked_1 (by decide) rfl ?_
  exact loop (aB (wA w)) 0 rfl (Nat.zero_le _) rfl
theorem C_Mo_judge {p r y : Int32} (hM : tMo sh m) (hR : rMo S m w) (hW : wOK w) (h0 : ¬ (rg p (wq w) = true ∧ rg r 6 = true) → P (some (.int (-1))) S)
    (hc : ∀ k t, k < wq w → p = nI k → t < 6 → r = nI t → ¬ wts w t = -1 → ¬ wts w t = nI 4 → P (some (.int (-12))) S)
    (h1 : ∀ k t, k < wq w → p = nI k → t < 6 → r = nI t → (wts w t = -1 ∨ wts w t = nI 4) → P (some (.int (jdN (qI w k).1 (wti w t) (wtz w t) y (aN (wA w)) 0))) S) : zR G m_Mo_judge 60 sh [.ref m, .int p, .int r, .int y] S P := by
  obtain ⟨m0, a1, a2, a3, a4, a5, a6, a7, a8, a9, a10, a11, a12, a13, a14, a15, a16, a22⟩ := id hM
  obtain ⟨k1, k2, k3, ⟨k4, kr⟩, ⟨kL, ktx⟩, kt⟩ := id hR
  obtain ⟨g0, gi, ⟨g2, g2q⟩, ⟨g3, g3x⟩, g4⟩ := id hW
  obtain ⟨⟨b1, b2, b3, b4, b5⟩, ⟨e1, e2, e3, e4, e5⟩, eV, eM, eMo, eS, eB⟩ := id g0
  have hv : ∀ j, j < aN (wA w) → ∀ c, c < 4 → aV (wA w) j c < 16 := fun j hj c hc => (eV j hj c hc).2
  have gr := hR.gr hW
  refine s_meth 1 ⟨p_Mo, rfl, Nat.le_of_ble_eq_true rfl⟩ rfl (fun sz => ?_)
  have main : ∀ k t, k < wq w → t < 6 → (wts w t = -1 ∨ wts w t = nI 4) → P (some (.int (jdN (qI w k).1 (wti w t) (wtz w t) y (aN (wA w)) 0))) S → ∀ d u, aN (wA w) - u = d → u ≤ aN (wA w) → jdN (qI w k).1 (wti w t) (wtz w t) y d u = jdN (qI w k).1 (wti w t) (wtz w t) y (aN (wA w)) 0 → zW G m_Mo_judge (zRm 60 0 0) (zFm G (zP sh sz P) 0 0) 0 0 42 [some (.ref m), some (.int (nI k)), some (.int (nI t)), some (.int y), some (.int (nI u))] [] (zhp sh S) sz := by
    intro k t hk ht hst hA d
    have hO := g4 t ht
    have hz60 : wtz w t ≤ 60 := hO.2.1
    obtain ⟨w1, w2, w3⟩ := kt t ht
    induction d with
    | zero =>
      intro r f1 f2 f3
      have hr : r = aN (wA w) := by omega
      rw [← f3] at hA
      subst hr
      refine z_iload dX10_judge_42 rfl ?_
      refine z_aload_n dX10_judge_44 rfl ?_
      refine s_getr f_Mo_11 dX10_judge_45 (by assumption) rfl ?_
      refine z_sipush 480 dX10_judge_48 (by decide) ?_
      refine s_iald dX10_judge_51 (by assumption) (by first | assumption | exact vp_in_nI (by omega) (by omega) | (unfold vp_in; decide)) ?_
      rw [show (480 : Int32).toNatClampNeg = 480 from rfl, gr.1]
      refine z_icmp_ge 133 dX10_judge_52 (by decide) (fun c52 => ?_) (fun c52 => ?_)
      · refine z_bipush (-5) dX10_judge_133 (by decide) ?_
        refine z_ireturn dX10_judge_135 rfl rfl ⟨Nat.le_refl _, Nat.le_refl _⟩ ?_
        exact ⟨rfl, _, rfl, hA⟩
      · exact absurd (nI_le (Nat.le_refl _) (by omega)) c52
    | succ d ih =>
      intro r f1 f2 f3
      have hQ := hR.mq hW hk
      have hN0 := (g2q k hk).1
      have hN50 := (g2q k hk).2.1
      have st : jdN (qI w k).1 (wti w t) (wtz w t) y (d + 1) r = if y < 0 ∨ nI (wtz w t) - nI r ≤ y then 1000 + nI r else if decide (wti w t (y.toNatClampNeg + r) ≠ 0) = (qI w k).1 r then jdN (qI w k).1 (wti w t) (wtz w t) y d (r + 1) else nI r := rfl
      refine z_iload dX10_judge_42 rfl ?_
      refine z_aload_n dX10_judge_44 rfl ?_
      refine s_getr f_Mo_11 dX10_judge_45 (by assumption) rfl ?_
      refine z_sipush 480 dX10_judge_48 (by decide) ?_
      refine s_iald dX10_judge_51 (by assumption) (by first | assumption | exact vp_in_nI (by omega) (by omega) | (unfold vp_in; decide)) ?_
      rw [show (480 : Int32).toNatClampNeg = 480 from rfl, gr.1]
      refine z_icmp_ge 133 dX10_judge_52 (by decide) (fun c52 => ?_) (fun c52 => ?_)
      · exact absurd c52 (nI_ge (by omega) (by omega))
      · refine z_aload_n dX10_judge_55 rfl ?_
        refine s_getr f_Mo_48 dX10_judge_56 (by assumption) rfl ?_
        refine z_iload_n dX10_judge_59 rfl ?_
        refine s_iald dX10_judge_60 a13 (vp_in_nI ht (by decide)) ?_
        rw [nI_clamp (by omega), w1]
        refine z_if_lt 81 dX10_judge_61 (by decide) (fun c61 => ?_) (fun c61 => ?_)
        · have hz0 : wtz w t = 0 := by
            rcases hO.1 with ⟨-, q⟩ | ⟨k', hk5, hk'⟩
            · exact q
            · have hk' : wts w t = nI k' := hk'
              rw [hk'] at c61
              exact absurd c61 (nI_pos (by omega))
          have hcnd : y < 0 ∨ nI (wtz w t) - nI r ≤ y := by
            by_cases hy : y < 0
            · exact Or.inl hy
            · right
              rw [hz0]
              have h1 := Int32.le_iff_toInt_le.mp (Int32.not_lt.mp hy)
              refine Int32.le_iff_toInt_le.mpr ?_
              rw [pk_sub_toInt (by decide) (by omega)]
              rw [show (0 : Int32).toInt = 0 by decide] at h1
              omega
          rw [if_pos hcnd] at st
          refine z_sipush 1000 dX10_judge_81 (by decide) ?_
          refine z_iload dX10_judge_84 rfl ?_
          refine z_iadd dX10_judge_86 ?_
          refine z_ireturn dX10_judge_87 rfl rfl ⟨Nat.le_refl _, Nat.le_refl _⟩ ?_
          rw [← f3, st] at hA
          exact ⟨rfl, _, rfl, hA⟩
        · have hs4 : wts w t = nI 4 := hst.resolve_left (fun z => c61 (by rw [z]; decide))
          refine z_iload_n dX10_judge_64 rfl ?_
          refine z_if_lt 81 dX10_judge_65 (by decide) (fun c65 => ?_) (fun c65 => ?_)
          · rw [if_pos (Or.inl c65)] at st
            refine z_sipush 1000 dX10_judge_81 (by decide) ?_
            refine z_iload dX10_judge_84 rfl ?_
            refine z_iadd dX10_judge_86 ?_
            refine z_ireturn dX10_judge_87 rfl rfl ⟨Nat.le_refl _, Nat.le_refl _⟩ ?_
            rw [← f3, st] at hA
            exact ⟨rfl, _, rfl, hA⟩
          · refine z_iload_n dX10_judge_68 rfl ?_
            refine z_aload_n dX10_judge_69 rfl ?_
            refine s_getr f_Mo_51 dX10_judge_70 (by assumption) rfl ?_
            refine z_iload_n dX10_judge_73 rfl ?_
            refine s_iald dX10_judge_74 a14 (vp_in_nI ht (by decide)) ?_
            rw [nI_clamp (by omega), w2]
            refine z_iload dX10_judge_75 rfl ?_
            refine z_isub dX10_judge_77 ?_
            refine z_icmp_lt 88 dX10_judge_78 (by decide) (fun c78 => ?_) (fun c78 => ?_)
            · rw [if_neg (fun q => q.elim c65 (fun q => Int32.not_lt.mpr q c78))] at st
              obtain ⟨j, hj, rfl⟩ := nI_of c65
              have hjr := lt_sub hz60 (by omega) hj c78
              rw [nI_clamp hj] at st
              refine z_aload_n dX10_judge_88 rfl ?_
              refine s_getr f_Mo_56 dX10_judge_89 (by assumption) rfl ?_
              refine z_iload_n dX10_judge_92 rfl ?_
              refine s_aald (by decide) dX10_judge_93 a15 (vp_in_nI ht (by decide)) (by rw [nI_clamp (by omega)]; exact if_pos ht) ?_
              refine z_iload_n dX10_judge_94 rfl ?_
              refine z_iload dX10_judge_95 rfl ?_
              refine z_iadd dX10_judge_97 ?_
              rw [nI_add]
              refine s_lald dX10_judge_98 (a16 t ht) (vp_in_nI (by omega) (by decide)) ?_
              rw [nI_clamp (by omega), w3 _ (by omega)]
              refine z_lconst 1 dX10_judge_99 (by decide) ?_
              refine z_lcmp dX10_judge_100 ?_
              refine z_if_ne 108 dX10_judge_101 (by decide) (fun c101 => ?_) (fun c101 => ?_)
              · have hit : wti w t (j + r) = 0 := (hO.2.2 hs4 (j + r) (by omega)).resolve_right (fun z => c101 (lgc0.mpr z))
                refine z_iconst 0 dX10_judge_108 rfl ?_
                refine z_aload_n dX10_judge_109 rfl ?_
                refine z_aload_n dX10_judge_110 rfl ?_
                refine s_getr f_Mo_21 dX10_judge_111 (by assumption) rfl ?_
                refine z_iload_n dX10_judge_114 rfl ?_
                refine s_iald dX10_judge_115 a4 (vp_in_nI (by omega) (by decide)) ?_
                rw [nI_clamp (by omega), (kr k hk).1]
                refine z_iload dX10_judge_116 rfl ?_
                refine s_callV1 l_Mo_146 (C_Mo_isSo hM hQ (by omega) (wN w k - 1) (by omega)) m0 dX10_judge_118 rfl rfl (Nat.le_of_ble_eq_true rfl) (rrm (by omega) (by decide)) ?_
                refine z_icmp_eq 127 dX10_judge_121 (by decide) (fun c121 => ?_) (fun c121 => ?_)
                · rw [if_pos (by revert c121 hit; cases (qI w k).1 r <;> simp [zo])] at st
                  refine z_iinc (lv' := [_, _, _, _, _]) 1 dX10_judge_127 rfl (by decide) rfl rfl ?_
                  refine z_goto 42 dX10_judge_130 (by decide) ?_
                  rw [nI_1]
                  exact ih (r + 1) (by omega) (by omega) (st.symm.trans f3)
                · rw [if_neg (by revert c121 hit; cases (qI w k).1 r <;> simp [zo])] at st
                  refine z_iload dX10_judge_124 rfl ?_
                  refine z_ireturn dX10_judge_126 rfl rfl ⟨Nat.le_refl _, Nat.le_refl _⟩ ?_
                  rw [← f3, st] at hA
                  exact ⟨rfl, _, rfl, hA⟩
              · have hit : ¬ wti w t (j + r) = 0 := fun z => by rw [lgc0.mp c101] at z; exact absurd z (by decide)
                refine z_iconst 1 dX10_judge_104 rfl ?_
                refine z_goto 109 dX10_judge_105 (by decide) ?_
                refine z_aload_n dX10_judge_109 rfl ?_
                refine z_aload_n dX10_judge_110 rfl ?_
                refine s_getr f_Mo_21 dX10_judge_111 (by assumption) rfl ?_
                refine z_iload_n dX10_judge_114 rfl ?_
                refine s_iald dX10_judge_115 a4 (vp_in_nI (by omega) (by decide)) ?_
                rw [nI_clamp (by omega), (kr k hk).1]
                refine z_iload dX10_judge_116 rfl ?_
                refine s_callV1 l_Mo_146 (C_Mo_isSo hM hQ (by omega) (wN w k - 1) (by omega)) m0 dX10_judge_118 rfl rfl (Nat.le_of_ble_eq_true rfl) (rrm (by omega) (by decide)) ?_
                refine z_icmp_eq 127 dX10_judge_121 (by decide) (fun c121 => ?_) (fun c121 => ?_)
                · rw [if_pos (by revert c121 hit; cases (qI w k).1 r <;> simp [zo])] at st
                  refine z_iinc (lv' := [_, _, _, _, _]) 1 dX10_judge_127 rfl (by decide) rfl rfl ?_
                  refine z_goto 42 dX10_judge_130 (by decide) ?_
                  rw [nI_1]
                  exact ih (r + 1) (by omega) (by omega) (st.symm.trans f3)
                · rw [if_neg (by revert c121 hit; cases (qI w k).1 r <;> simp [zo])] at st
                  refine z_iload dX10_judge_124 rfl ?_
                  refine z_ireturn dX10_judge_126 rfl rfl ⟨Nat.le_refl _, Nat.le_refl _⟩ ?_
                  rw [← f3, st] at hA
                  exact ⟨rfl, _, rfl, hA⟩
            · rw [if_pos (Or.inr (Int32.not_lt.mp c78))] at st
              refine z_sipush 1000 dX10_judge_81 (by decide) ?_
              refine z_iload dX10_judge_84 rfl ?_
              refine z_iadd dX10_judge_86 ?_
              refine z_ireturn dX10_judge_87 rfl rfl ⟨Nat.le_refl _, Nat.le_refl _⟩ ?_
              rw [← f3, st] at hA
              exact ⟨rfl, _, rfl, hA⟩
  refine z_aload_n dX10_judge_0 rfl ?_
  refine z_iload_n dX10_judge_1 rfl ?_
  refine s_callV1 l_Mo_163 (C_Mo_isQuery hM k4 (by omega)) m0 dX10_judge_2 rfl rfl (Nat.le_of_ble_eq_true rfl) (rrm (by omega) (by decide)) ?_
  refine z_if_eq 15 dX10_judge_5 (by decide) (fun c5 => ?_) (fun c5 => ?_)
  · refine z_iconst (-1) dX10_judge_15 rfl ?_
    refine z_ireturn dX10_judge_16 rfl rfl ⟨Nat.le_refl _, Nat.le_refl _⟩ ?_
    first
      | exact ⟨rfl, _, rfl, h0 (fun q => zoT q.1 c5)⟩
      | exact ⟨rfl, _, rfl, h0 (fun q => zoT q.2 c12)⟩
      | skip
  · refine z_iload_n dX10_judge_8 rfl ?_
    refine s_callS1 l_Mo_195 (C_Mo_isTape) dX10_judge_9 rfl rfl (Nat.le_of_ble_eq_true rfl) (rrm (by omega) (by decide)) ?_
    refine z_if_ne 17 dX10_judge_12 (by decide) (fun c12 => ?_) (fun c12 => ?_)
    · obtain ⟨k, hk, rfl⟩ := rg_t (by omega) (zo_ne0.mp c5)
      obtain ⟨t, ht, rfl⟩ := rg_t (by decide) (zo_ne0.mp c12)
      have hO := g4 t ht
      have w1 := (kt t ht).1
      refine z_aload_n dX10_judge_17 rfl ?_
      refine s_getr f_Mo_48 dX10_judge_18 (by assumption) rfl ?_
      refine z_iload_n dX10_judge_21 rfl ?_
      refine s_iald dX10_judge_22 a13 (vp_in_nI ht (by decide)) ?_
      rw [nI_clamp (by omega), w1]
      refine z_if_lt 39 dX10_judge_23 (by decide) (fun c23 => ?_) (fun c23 => ?_)
      · have hn : wts w t = -1 ∨ wts w t = nI 4 := by
          rcases hO.1 with ⟨q, -⟩ | ⟨k', hk5, hk'⟩
          · exact Or.inl q
          · have hk' : wts w t = nI k' := hk'
            rw [hk'] at c23
            exact absurd c23 (nI_pos (by omega))
        refine z_iconst 0 dX10_judge_39 rfl ?_
        refine z_istore (lv' := [_, _, _, _, _]) dX10_judge_40 (by decide) rfl ?_
        exact main k t hk ht hn (h1 k t hk rfl ht rfl hn) (aN (wA w)) 0 rfl (Nat.zero_le _) rfl
      · refine z_aload_n dX10_judge_26 rfl ?_
        refine s_getr f_Mo_48 dX10_judge_27 (by assumption) rfl ?_
        refine z_iload_n dX10_judge_30 rfl ?_
        refine s_iald dX10_judge_31 a13 (vp_in_nI ht (by decide)) ?_
        rw [nI_clamp (by omega), w1]
        refine z_iconst 4 dX10_judge_32 rfl ?_
        refine z_icmp_eq 39 dX10_judge_33 (by decide) (fun c33 => ?_) (fun c33 => ?_)
        · have hn : wts w t = -1 ∨ wts w t = nI 4 := Or.inr c33
          refine z_iconst 0 dX10_judge_39 rfl ?_
          refine z_istore (lv' := [_, _, _, _, _]) dX10_judge_40 (by decide) rfl ?_
          exact main k t hk ht hn (h1 k t hk rfl ht rfl hn) (aN (wA w)) 0 rfl (Nat.zero_le _) rfl
        · refine z_bipush (-12) dX10_judge_36 (by decide) ?_
          refine z_ireturn dX10_judge_38 rfl rfl ⟨Nat.le_refl _, Nat.le_refl _⟩ ?_
          exact ⟨rfl, _, rfl, hc k t hk rfl ht rfl (fun z => by rw [z] at c23; exact c23 (by decide)) c33⟩
    · refine z_iconst (-1) dX10_judge_15 rfl ?_
      refine z_ireturn dX10_judge_16 rfl rfl ⟨Nat.le_refl _, Nat.le_refl _⟩ ?_
      first
        | exact ⟨rfl, _, rfl, h0 (fun q => zoT q.1 c5)⟩
        | exact ⟨rfl, _, rfl, h0 (fun q => zoT q.2 c12)⟩
        | skip
theorem C_Mo_shift {p r s y z : Int32} (hM : tMo sh m) (hR : rMo S m w) (hW : wOK w) (h0 : ¬ (rg p 6 = true ∧ rg s 6 = true) → P (some (.int (-1))) S)
    (h1 : ∀ t u, t < 6 → u < 6 → p = nI t → s = nI u → (wts w t = -1 ∨ wts w u = -1) → P (some (.int (-11))) S) (hc : ∀ t u, t < 6 → u < 6 → p = nI t → s = nI u → ¬ (wts w t = -1 ∨ wts w u = -1) → ¬ wts w t = wts w u → P (some (.int (-12))) S)
    (hb : ∀ t u, t < 6 → u < 6 → p = nI t → s = nI u → ¬ (wts w t = -1 ∨ wts w u = -1) → wts w t = wts w u → ¬ ((0 ≤ z ∧ 0 ≤ r ∧ r ≤ nI (wtz w t) - z) ∧ (0 ≤ z ∧ 0 ≤ y ∧ y ≤ nI (wtz w u) - z)) → P (some (.int (-13))) S)
    (h2 : ∀ t u i j n S', t < 6 → u < 6 → p = nI t → s = nI u → ¬ (wts w t = -1 ∨ wts w u = -1) → wts w t = wts w u → r = nI i → y = nI j → z = nI n → i + n ≤ wtz w t → j + n ≤ wtz w u → frS S (inM m) S' → rMo S' m (wTape w u (wts w u, wtz w u, lcpy (wti w t) (wti w u) i j n)) → P (some (.int (nI n))) S') : zR G m_Mo_shift 3 sh [.ref m, .int p, .int r, .int s, .int y, .int z] S P := by
  obtain ⟨m0, a1, a2, a3, a4, a5, a6, a7, a8, a9, a10, a11, a12, a13, a14, a15, a16, a22⟩ := id hM
  obtain ⟨k1, k2, k3, ⟨k4, kr⟩, ⟨kL, ktx⟩, kt⟩ := id hR
  obtain ⟨g0, gi, ⟨g2, g2q⟩, ⟨g3, g3x⟩, g4⟩ := id hW
  obtain ⟨⟨b1, b2, b3, b4, b5⟩, ⟨e1, e2, e3, e4, e5⟩, eV, eM, eMo, eS, eB⟩ := id g0
  have hv : ∀ j, j < aN (wA w) → ∀ c, c < 4 → aV (wA w) j c < 16 := fun j hj c hc => (eV j hj c hc).2
  refine s_meth 1 ⟨p_Mo, rfl, Nat.le_of_ble_eq_true rfl⟩ rfl (fun sz => ?_)
  have loop2 : ∀ t u i j n, t < 6 → u < 6 → i + n ≤ 60 → j + n ≤ 60 → (∀ S', frS S (inM m) S' → rMo S' m (wTape w u (wts w u, wtz w u, lcpy (wti w t) (wti w u) i j n)) → P (some (.int (nI n))) S') → ∀ d e S', n - e = d → e ≤ n → frS S (fun b => b = m + 22 ∨ b = m + 16 + u) S' → (∀ f, f < n → zj S' (m + 22) f = wti w t (i + f)) → (∀ f, f < 60 → zj S' (m + 16 + u) f = if j ≤ f ∧ f < j + e then wti w t (i + (f - j)) else wti w u f) → zW G m_Mo_shift (zRm 3 0 0) (zFm G (zP sh sz P) 0 0) 0 0 158 [some (.ref m), some (.int (nI t)), some (.int (nI i)), some (.int (nI u)), some (.int (nI j)), some (.int (nI n)), some (.int (nI e))] [] (zhp sh S') sz := by
    intro t u i j n ht hu hi hj hA d
    obtain ⟨x1, x2, x3⟩ := kt u hu
    induction d with
    | zero =>
      intro e S' f1 f2 f3 f4 f5
      have he : e = n := by omega
      subst he
      refine z_iload dX10_shift_158 rfl ?_
      refine z_iload dX10_shift_160 rfl ?_
      refine z_icmp_ge 190 dX10_shift_162 (by decide) (fun c162 => ?_) (fun c162 => ?_)
      · refine z_iload dX10_shift_190 rfl ?_
        refine z_ireturn dX10_shift_192 rfl rfl ⟨Nat.le_refl _, Nat.le_refl _⟩ ?_
        exact ⟨rfl, _, rfl, hA S' (f3.weaken (fun b hb => by unfold inM; omega)) (hR.tape f3 hu (fun b b1 b2 b3 b4 b5 b6 => by omega) (fun v hv e => ⟨congrFun (f3 _ (by omega)).2.2.1 _, congrFun (f3 _ (by omega)).2.2.1 _⟩) ⟨(congrFun (f3 _ (by omega)).2.2.1 _).trans x1, (congrFun (f3 _ (by omega)).2.2.1 _).trans x2, f5⟩)⟩
      · exact absurd (nI_le (Nat.le_refl _) (by omega)) c162
    | succ d ih =>
      intro e S' f1 f2 f3 f4 f5
      refine z_iload dX10_shift_158 rfl ?_
      refine z_iload dX10_shift_160 rfl ?_
      refine z_icmp_ge 190 dX10_shift_162 (by decide) (fun c162 => ?_) (fun c162 => ?_)
      · exact absurd c162 (nI_ge (by omega) (by omega))
      · refine z_aload_n dX10_shift_165 rfl ?_
        refine s_getr f_Mo_56 dX10_shift_166 (by assumption) rfl ?_
        refine z_iload_n dX10_shift_169 rfl ?_
        refine s_aald (by decide) dX10_shift_170 a15 (vp_in_nI hu (by decide)) (by rw [nI_clamp (by omega)]; exact if_pos hu) ?_
        refine z_iload dX10_shift_171 rfl ?_
        refine z_iload dX10_shift_173 rfl ?_
        refine z_iadd dX10_shift_175 ?_
        rw [nI_add]
        refine z_aload_n dX10_shift_176 rfl ?_
        refine s_getr f_Mo_59 dX10_shift_177 (by assumption) rfl ?_
        refine z_iload dX10_shift_180 rfl ?_
        refine s_lald dX10_shift_182 a22 (vp_in_nI (by omega) (by decide)) ?_
        rw [nI_clamp (by omega), f4 e (by omega)]
        refine s_last dX10_shift_183 (a16 u hu) (vp_in_nI (by omega) (by decide)) ?_
        refine z_iinc (lv' := [_, _, _, _, _, _, _]) 1 dX10_shift_184 rfl (by decide) rfl rfl ?_
        refine z_goto 158 dX10_shift_187 (by decide) ?_
        rw [nI_1, nI_clamp (by omega)]
        refine ih (e + 1) _ (by omega) (by omega) (f3.trans (frS.setj (Or.inr rfl))) (fun f hf => (zup_ne (by omega)).trans (f4 f hf)) (fun f hf => ?_)
        by_cases q : f = j + e
        · subst q
          rw [if_pos ⟨by omega, by omega⟩, show j + e - j = e by omega]
          exact zup_same
        · refine (zup_ne (fun z => q z.2)).trans ((f5 f hf).trans ?_)
          by_cases q2 : j ≤ f ∧ f < j + e
          · rw [if_pos q2, if_pos ⟨q2.1, by omega⟩]
          · rw [if_neg q2, if_neg (fun q3 => q2 ⟨q3.1, by omega⟩)]
  have loop1 : ∀ t u i j n, t < 6 → u < 6 → i + n ≤ 60 → j + n ≤ 60 → (∀ S', frS S (inM m) S' → rMo S' m (wTape w u (wts w u, wtz w u, lcpy (wti w t) (wti w u) i j n)) → P (some (.int (nI n))) S') → ∀ d e S', n - e = d → e ≤ n → frS S (fun b => b = m + 22) S' → (∀ f, f < e → zj S' (m + 22) f = wti w t (i + f)) → zW G m_Mo_shift (zRm 3 0 0) (zFm G (zP sh sz P) 0 0) 0 0 124 [some (.ref m), some (.int (nI t)), some (.int (nI i)), some (.int (nI u)), some (.int (nI j)), some (.int (nI n)), some (.int (nI e))] [] (zhp sh S') sz := by
    intro t u i j n ht hu hi hj hA d
    obtain ⟨w1, w2, w3⟩ := kt t ht
    obtain ⟨x1, x2, x3⟩ := kt u hu
    induction d with
    | zero =>
      intro e S' f1 f2 f3 f4
      have he : e = n := by omega
      subst he
      refine z_iload dX10_shift_124 rfl ?_
      refine z_iload dX10_shift_126 rfl ?_
      refine z_icmp_ge 155 dX10_shift_128 (by decide) (fun c128 => ?_) (fun c128 => ?_)
      · refine z_iconst 0 dX10_shift_155 rfl ?_
        refine z_istore (lv' := [_, _, _, _, _, _, _]) dX10_shift_156 (by decide) rfl ?_
        exact loop2 t u i j e ht hu hi hj hA e 0 S' rfl (Nat.zero_le _) (f3.weaken (fun b hb => Or.inl hb)) f4 (fun f hf => by rw [if_neg (by omega)]; exact (congrFun (f3 _ (by omega)).2.2.2 f).trans (x3 f hf))
      · exact absurd (nI_le (Nat.le_refl _) (by omega)) c128
    | succ d ih =>
      intro e S' f1 f2 f3 f4
      refine z_iload dX10_shift_124 rfl ?_
      refine z_iload dX10_shift_126 rfl ?_
      refine z_icmp_ge 155 dX10_shift_128 (by decide) (fun c128 => ?_) (fun c128 => ?_)
      · exact absurd c128 (nI_ge (by omega) (by omega))
      · refine z_aload_n dX10_shift_131 rfl ?_
        refine s_getr f_Mo_59 dX10_shift_132 (by assumption) rfl ?_
        refine z_iload dX10_shift_135 rfl ?_
        refine z_aload_n dX10_shift_137 rfl ?_
        refine s_getr f_Mo_56 dX10_shift_138 (by assumption) rfl ?_
        refine z_iload_n dX10_shift_141 rfl ?_
        refine s_aald (by decide) dX10_shift_142 a15 (vp_in_nI ht (by decide)) (by rw [nI_clamp (by omega)]; exact if_pos ht) ?_
        refine z_iload_n dX10_shift_143 rfl ?_
        refine z_iload dX10_shift_144 rfl ?_
        refine z_iadd dX10_shift_146 ?_
        rw [nI_add]
        refine s_lald dX10_shift_147 (a16 t ht) (vp_in_nI (by omega) (by decide)) ?_
        rw [nI_clamp (by omega), show zj S' (m + 16 + t) (i + e) = wti w t (i + e) from (congrFun (f3 _ (by omega)).2.2.2 _).trans (w3 _ (by omega))]
        refine s_last dX10_shift_148 a22 (vp_in_nI (by omega) (by decide)) ?_
        refine z_iinc (lv' := [_, _, _, _, _, _, _]) 1 dX10_shift_149 rfl (by decide) rfl rfl ?_
        refine z_goto 124 dX10_shift_152 (by decide) ?_
        rw [nI_1, nI_clamp (by omega)]
        refine ih (e + 1) _ (by omega) (by omega) (f3.trans (frS.setj rfl)) (fun f hf => ?_)
        by_cases q : f = e
        · subst q; exact zup_same
        · exact (zup_ne (fun z => q z.2)).trans (f4 f (by omega))
  refine z_iload_n dX10_shift_0 rfl ?_
  refine s_callS1 l_Mo_195 (C_Mo_isTape) dX10_shift_1 rfl rfl (Nat.le_of_ble_eq_true rfl) ⟨⟨by decide, by decide⟩, by decide, by decide⟩ ?_
  refine z_if_eq 14 dX10_shift_4 (by decide) (fun c4 => ?_) (fun c4 => ?_)
  · refine z_iconst (-1) dX10_shift_14 rfl ?_
    refine z_ireturn dX10_shift_15 rfl rfl ⟨Nat.le_refl _, Nat.le_refl _⟩ ?_
    first
      | exact ⟨rfl, _, rfl, h0 (fun q => zoT q.1 c4)⟩
      | exact ⟨rfl, _, rfl, h0 (fun q => zoT q.2 c11)⟩
      | skip
  · refine z_iload_n dX10_shift_7 rfl ?_
    refine s_callS1 l_Mo_195 (C_Mo_isTape) dX10_shift_8 rfl rfl (Nat.le_of_ble_eq_true rfl) ⟨⟨by decide, by decide⟩, by decide, by decide⟩ ?_
    refine z_if_ne 16 dX10_shift_11 (by decide) (fun c11 => ?_) (fun c11 => ?_)
    · obtain ⟨t, ht, rfl⟩ := rg_t (by decide) (zo_ne0.mp c4)
      obtain ⟨u, hu, rfl⟩ := rg_t (by decide) (zo_ne0.mp c11)
      have hO := g4 t ht
      have hO2 := g4 u hu
      obtain ⟨w1, w2, w3⟩ := kt t ht
      obtain ⟨x1, x2, x3⟩ := kt u hu
      have hz60 : wtz w t ≤ 60 := hO.2.1
      have hy60 : wtz w u ≤ 60 := hO2.2.1
      have neg : ∀ v, v < 6 → wts w v < 0 → wts w v = -1 := fun v hv c => by
        rcases (g4 v hv).1 with ⟨q, -⟩ | ⟨k', hk5, hk'⟩
        · exact q
        · have hk' : wts w v = nI k' := hk'
          rw [hk'] at c
          exact absurd c (nI_pos (by omega))
      refine z_aload_n dX10_shift_16 rfl ?_
      refine s_getr f_Mo_48 dX10_shift_17 (by assumption) rfl ?_
      refine z_iload_n dX10_shift_20 rfl ?_
      refine s_iald dX10_shift_21 a13 (vp_in_nI ht (by decide)) ?_
      rw [nI_clamp (by omega), w1]
      refine z_if_lt 34 dX10_shift_22 (by decide) (fun c22 => ?_) (fun c22 => ?_)
      · have hnn : wts w t = -1 ∨ wts w u = -1 := Or.inl (neg t ht c22)
        refine z_bipush (-11) dX10_shift_34 (by decide) ?_
        refine z_ireturn dX10_shift_36 rfl rfl ⟨Nat.le_refl _, Nat.le_refl _⟩ ?_
        exact ⟨rfl, _, rfl, h1 t u ht hu rfl rfl hnn⟩
      · refine z_aload_n dX10_shift_25 rfl ?_
        refine s_getr f_Mo_48 dX10_shift_26 (by assumption) rfl ?_
        refine z_iload_n dX10_shift_29 rfl ?_
        refine s_iald dX10_shift_30 a13 (vp_in_nI hu (by decide)) ?_
        rw [nI_clamp (by omega), x1]
        refine z_if_ge 37 dX10_shift_31 (by decide) (fun c31 => ?_) (fun c31 => ?_)
        · have hnn : ¬ (wts w t = -1 ∨ wts w u = -1) := fun q => q.elim (fun e => c22 (by rw [e]; decide)) (fun e => by rw [e] at c31; exact absurd c31 (by decide))
          refine z_aload_n dX10_shift_37 rfl ?_
          refine s_getr f_Mo_48 dX10_shift_38 (by assumption) rfl ?_
          refine z_iload_n dX10_shift_41 rfl ?_
          refine s_iald dX10_shift_42 a13 (vp_in_nI ht (by decide)) ?_
          rw [nI_clamp (by omega), w1]
          refine z_aload_n dX10_shift_43 rfl ?_
          refine s_getr f_Mo_48 dX10_shift_44 (by assumption) rfl ?_
          refine z_iload_n dX10_shift_47 rfl ?_
          refine s_iald dX10_shift_48 a13 (vp_in_nI hu (by decide)) ?_
          rw [nI_clamp (by omega), x1]
          refine z_icmp_eq 55 dX10_shift_49 (by decide) (fun c49 => ?_) (fun c49 => ?_)
          · refine z_iload dX10_shift_55 rfl ?_
            refine z_if_lt 118 dX10_shift_57 (by decide) (fun c57 => ?_) (fun c57 => ?_)
            · have hbad : ¬ ((0 ≤ z ∧ 0 ≤ r ∧ r ≤ nI (wtz w t) - z) ∧ (0 ≤ z ∧ 0 ≤ y ∧ y ≤ nI (wtz w u) - z)) := fun q => Int32.not_lt.mpr q.1.1 c57
              refine z_bipush (-13) dX10_shift_118 (by decide) ?_
              refine z_ireturn dX10_shift_120 rfl rfl ⟨Nat.le_refl _, Nat.le_refl _⟩ ?_
              exact ⟨rfl, _, rfl, hb t u ht hu rfl rfl hnn c49 hbad⟩
            · refine z_iload_n dX10_shift_60 rfl ?_
              refine z_if_lt 118 dX10_shift_61 (by decide) (fun c61 => ?_) (fun c61 => ?_)
              · have hbad : ¬ ((0 ≤ z ∧ 0 ≤ r ∧ r ≤ nI (wtz w t) - z) ∧ (0 ≤ z ∧ 0 ≤ y ∧ y ≤ nI (wtz w u) - z)) := fun q => Int32.not_lt.mpr q.1.2.1 c61
                refine z_bipush (-13) dX10_shift_118 (by decide) ?_
                refine z_ireturn dX10_shift_120 rfl rfl ⟨Nat.le_refl _, Nat.le_refl _⟩ ?_
                exact ⟨rfl, _, rfl, hb t u ht hu rfl rfl hnn c49 hbad⟩
              · refine z_iload dX10_shift_64 rfl ?_
                refine z_if_lt 118 dX10_shift_66 (by decide) (fun c66 => ?_) (fun c66 => ?_)
                · have hbad : ¬ ((0 ≤ z ∧ 0 ≤ r ∧ r ≤ nI (wtz w t) - z) ∧ (0 ≤ z ∧ 0 ≤ y ∧ y ≤ nI (wtz w u) - z)) := fun q => Int32.not_lt.mpr q.2.2.1 c66
                  refine z_bipush (-13) dX10_shift_118 (by decide) ?_
                  refine z_ireturn dX10_shift_120 rfl rfl ⟨Nat.le_refl _, Nat.le_refl _⟩ ?_
                  exact ⟨rfl, _, rfl, hb t u ht hu rfl rfl hnn c49 hbad⟩
                · refine z_iload dX10_shift_69 rfl ?_
                  refine z_aload_n dX10_shift_71 rfl ?_
                  refine s_getr f_Mo_51 dX10_shift_72 (by assumption) rfl ?_
                  refine z_iload_n dX10_shift_75 rfl ?_
                  refine s_iald dX10_shift_76 a14 (vp_in_nI ht (by decide)) ?_
                  rw [nI_clamp (by omega), w2]
                  refine z_icmp_gt 118 dX10_shift_77 (by decide) (fun c77 => ?_) (fun c77 => ?_)
                  · have hbad : ¬ ((0 ≤ z ∧ 0 ≤ r ∧ r ≤ nI (wtz w t) - z) ∧ (0 ≤ z ∧ 0 ≤ y ∧ y ≤ nI (wtz w u) - z)) := fun q => by
                      obtain ⟨i, n, -, en, hin⟩ := str_sub hz60 q.1.1 q.1.2.1 q.1.2.2
                      rw [en] at c77
                      exact nI_nlt (show n ≤ wtz w t by omega) (by omega) c77
                    refine z_bipush (-13) dX10_shift_118 (by decide) ?_
                    refine z_ireturn dX10_shift_120 rfl rfl ⟨Nat.le_refl _, Nat.le_refl _⟩ ?_
                    exact ⟨rfl, _, rfl, hb t u ht hu rfl rfl hnn c49 hbad⟩
                  · refine z_iload dX10_shift_80 rfl ?_
                    refine z_aload_n dX10_shift_82 rfl ?_
                    refine s_getr f_Mo_51 dX10_shift_83 (by assumption) rfl ?_
                    refine z_iload_n dX10_shift_86 rfl ?_
                    refine s_iald dX10_shift_87 a14 (vp_in_nI hu (by decide)) ?_
                    rw [nI_clamp (by omega), x2]
                    refine z_icmp_gt 118 dX10_shift_88 (by decide) (fun c88 => ?_) (fun c88 => ?_)
                    · have hbad : ¬ ((0 ≤ z ∧ 0 ≤ r ∧ r ≤ nI (wtz w t) - z) ∧ (0 ≤ z ∧ 0 ≤ y ∧ y ≤ nI (wtz w u) - z)) := fun q => by
                        obtain ⟨i, n, -, en, hin⟩ := str_sub hy60 q.2.1 q.2.2.1 q.2.2.2
                        rw [en] at c88
                        exact nI_nlt (show n ≤ wtz w u by omega) (by omega) c88
                      refine z_bipush (-13) dX10_shift_118 (by decide) ?_
                      refine z_ireturn dX10_shift_120 rfl rfl ⟨Nat.le_refl _, Nat.le_refl _⟩ ?_
                      exact ⟨rfl, _, rfl, hb t u ht hu rfl rfl hnn c49 hbad⟩
                    · refine z_iload_n dX10_shift_91 rfl ?_
                      refine z_aload_n dX10_shift_92 rfl ?_
                      refine s_getr f_Mo_51 dX10_shift_93 (by assumption) rfl ?_
                      refine z_iload_n dX10_shift_96 rfl ?_
                      refine s_iald dX10_shift_97 a14 (vp_in_nI ht (by decide)) ?_
                      rw [nI_clamp (by omega), w2]
                      refine z_iload dX10_shift_98 rfl ?_
                      refine z_isub dX10_shift_100 ?_
                      refine z_icmp_gt 118 dX10_shift_101 (by decide) (fun c101 => ?_) (fun c101 => ?_)
                      · have hbad : ¬ ((0 ≤ z ∧ 0 ≤ r ∧ r ≤ nI (wtz w t) - z) ∧ (0 ≤ z ∧ 0 ≤ y ∧ y ≤ nI (wtz w u) - z)) := fun q => Int32.not_lt.mpr q.1.2.2 c101
                        refine z_bipush (-13) dX10_shift_118 (by decide) ?_
                        refine z_ireturn dX10_shift_120 rfl rfl ⟨Nat.le_refl _, Nat.le_refl _⟩ ?_
                        exact ⟨rfl, _, rfl, hb t u ht hu rfl rfl hnn c49 hbad⟩
                      · refine z_iload dX10_shift_104 rfl ?_
                        refine z_aload_n dX10_shift_106 rfl ?_
                        refine s_getr f_Mo_51 dX10_shift_107 (by assumption) rfl ?_
                        refine z_iload_n dX10_shift_110 rfl ?_
                        refine s_iald dX10_shift_111 a14 (vp_in_nI hu (by decide)) ?_
                        rw [nI_clamp (by omega), x2]
                        refine z_iload dX10_shift_112 rfl ?_
                        refine z_isub dX10_shift_114 ?_
                        refine z_icmp_le 121 dX10_shift_115 (by decide) (fun c115 => ?_) (fun c115 => ?_)
                        · obtain ⟨i, n, er, ez, hin⟩ := str_sub hz60 (Int32.not_lt.mp c57) (Int32.not_lt.mp c61) (Int32.not_lt.mp c101)
                          obtain ⟨j, n2, ey, ez2, hjn⟩ := str_sub hy60 (Int32.not_lt.mp c57) (Int32.not_lt.mp c66) c115
                          have en := (nI_eq (by omega) (by omega)).mp (ez.symm.trans ez2)
                          subst en
                          subst er
                          subst ey
                          subst ez
                          refine z_iconst 0 dX10_shift_121 rfl ?_
                          refine z_istore (lv' := [_, _, _, _, _, _, _]) dX10_shift_122 (by decide) rfl ?_
                          exact loop1 t u i j n ht hu (by omega) (by omega) (fun S' f1 f2 => h2 t u i j n S' ht hu rfl rfl hnn c49 rfl rfl rfl hin hjn f1 f2) n 0 S rfl (Nat.zero_le _) frS.rf (fun f hf => absurd hf (Nat.not_lt_zero _))
                        · have hbad : ¬ ((0 ≤ z ∧ 0 ≤ r ∧ r ≤ nI (wtz w t) - z) ∧ (0 ≤ z ∧ 0 ≤ y ∧ y ≤ nI (wtz w u) - z)) := fun q => c115 q.2.2.2
                          refine z_bipush (-13) dX10_shift_118 (by decide) ?_
                          refine z_ireturn dX10_shift_120 rfl rfl ⟨Nat.le_refl _, Nat.le_refl _⟩ ?_
                          exact ⟨rfl, _, rfl, hb t u ht hu rfl rfl hnn c49 hbad⟩
          · refine z_bipush (-12) dX10_shift_52 (by decide) ?_
            refine z_ireturn dX10_shift_54 rfl rfl ⟨Nat.le_refl _, Nat.le_refl _⟩ ?_
            exact ⟨rfl, _, rfl, hc t u ht hu rfl rfl hnn c49⟩
        · have hnn : wts w t = -1 ∨ wts w u = -1 := Or.inr (neg u hu (Int32.not_le.mp c31))
          refine z_bipush (-11) dX10_shift_34 (by decide) ?_
          refine z_ireturn dX10_shift_36 rfl rfl ⟨Nat.le_refl _, Nat.le_refl _⟩ ?_
          exact ⟨rfl, _, rfl, h1 t u ht hu rfl rfl hnn⟩
    · refine z_iconst (-1) dX10_shift_14 rfl ?_
      refine z_ireturn dX10_shift_15 rfl rfl ⟨Nat.le_refl _, Nat.le_refl _⟩ ?_
      first
        | exact ⟨rfl, _, rfl, h0 (fun q => zoT q.1 c4)⟩
        | exact ⟨rfl, _, rfl, h0 (fun q => zoT q.2 c11)⟩
        | skip
end MOI

