/-! ===== the model: what is asked of queries ===== -/
theorem eX_rng (z : Nat → Nat) : ∀ i, eX z i = -5 ∨ ∃ b, b < i ∧ eX z i = nI b
  | 0 => Or.inl rfl
  | i + 1 => by
    have ih := eX_rng z i
    have e : eX z (i + 1) = if 0 < z i then (if eX z i < 0 ∨ z (eX z i).toNatClampNeg < z i then nI i else eX z i) else eX z i := rfl
    have up : eX z i = -5 ∨ ∃ b, b < i + 1 ∧ eX z i = nI b := ih.imp id (fun ⟨b, h1, h2⟩ => ⟨b, by omega, h2⟩)
    rw [e]
    split
    · split
      · exact Or.inr ⟨i, by omega, rfl⟩
      · exact up
    · exact up
theorem gct_s (f : Nat → Bool) (v : Nat → Nat → Nat) (r c k : Nat) : gct f v (r + 1) c k = gct f v r c k + (if (f r && decide (v r c = k)) = true then 1 else 0) := fb_ct_succ _ _
section MOF
variable {G : zG} {sh : Nat → Option zSh} {S : zSt} {m n c k j a b i q N : Nat} {w : Wd} {v : Nat → Nat → Nat} {nd : Nd} {stk : Nat → List Nat} {P : Option Value → zSt → Prop}
theorem C_Mo_of {p r : Int32} (hM : tMo sh m) (hR : rMo S m w) (hW : wOK w) (h0 : ¬ (rg p (wq w) = true ∧ rg r 8 = true) → P (some (.int (-1))) S)
    (h1 : ∀ k i, k < wq w → p = nI k → i < 8 → r = nI i → P (some (.int (ofA w k i))) S) : zR G m_Mo_of 60 sh [.ref m, .int p, .int r] S P := by
  obtain ⟨m0, a1, a2, a3, a4, a5, a6, a7, a8, a9, a10, a11, a12, a13, a14, a15, a16, a22⟩ := id hM
  obtain ⟨k1, k2, k3, ⟨k4, kr⟩, ⟨kL, ktx⟩, kt⟩ := id hR
  obtain ⟨g0, gi, ⟨g2, g2q⟩, ⟨g3, g3x⟩, g4⟩ := id hW
  obtain ⟨⟨b1, b2, b3, b4, b5⟩, ⟨e1, e2, e3, e4, e5⟩, eV, eM, eMo, eS, eB⟩ := id g0
  have hv : ∀ j, j < aN (wA w) → ∀ c, c < 4 → aV (wA w) j c < 16 := fun j hj c hc => (eV j hj c hc).2
  refine s_meth 1 ⟨p_Mo, rfl, Nat.le_of_ble_eq_true rfl⟩ rfl (fun sz => ?_)
  refine z_aload_n dX10_of_0 rfl ?_
  refine z_iload_n dX10_of_1 rfl ?_
  refine s_callV1 l_Mo_163 (C_Mo_isQuery hM k4 (by omega)) m0 dX10_of_2 rfl rfl (Nat.le_of_ble_eq_true rfl) (rrm (by omega) (by decide)) ?_
  refine z_if_eq 18 dX10_of_5 (by decide) (fun c5 => ?_) (fun c5 => ?_)
  · refine z_iconst (-1) dX10_of_18 rfl ?_
    refine z_ireturn dX10_of_19 rfl rfl ⟨Nat.le_refl _, Nat.le_refl _⟩ ?_
    first
      | exact ⟨rfl, _, rfl, h0 (fun q => zoT q.1 c5)⟩
      | exact ⟨rfl, _, rfl, h0 (fun q => zoT q.2 c15)⟩
      | skip
  · refine z_iload_n dX10_of_8 rfl ?_
    refine z_iconst 0 dX10_of_9 rfl ?_
    refine z_bipush 7 dX10_of_10 (by decide) ?_
    refine s_callS1 l_Mo_63 (C_Mo_in0 (n := 8) (by decide) (by decide)) dX10_of_12 rfl rfl (Nat.le_of_ble_eq_true rfl) (rrm (by omega) (by decide)) ?_
    refine z_if_ne 20 dX10_of_15 (by decide) (fun c15 => ?_) (fun c15 => ?_)
    · obtain ⟨k, hk, rfl⟩ := rg_t (by omega) (zo_ne0.mp c5)
      obtain ⟨i, hi8, rfl⟩ := rg_t (by decide) (zo_ne0.mp c15)
      have hQ := hR.mq hW hk
      have hf := g2q k hk
      have hN0 := hf.1
      have hN50 := hf.2.1
      have hA := h1 k i hk rfl hi8 rfl
      have ik : ∀ t, t < 8 → nI i = nI t → i = t := fun t ht h => (nI_eq (by omega) (by omega)).mp h
      refine z_aload_n dX10_of_20 rfl ?_
      refine s_getr f_Mo_21 dX10_of_21 (by assumption) rfl ?_
      refine z_iload_n dX10_of_24 rfl ?_
      refine s_iald dX10_of_25 a4 (vp_in_nI (by omega) (by decide)) ?_
      rw [nI_clamp (by omega), (kr k hk).1]
      refine z_istore_n (lv' := [_, _, _, _]) dX10_of_26 (by decide) rfl ?_
      refine z_iload_n dX10_of_27 rfl ?_
      refine z_table 0 [72, 78, 84, 90, 97, 110, 117] 124 dX10_of_28 (by decide) ⟨fun c28 => ?_, fun c28 => ?_, fun c28 => ?_, fun c28 => ?_, fun c28 => ?_, fun c28 => ?_, fun c28 => ?_, trivial⟩ (fun c28 => ?_)
      · have hi := ik 0 (by decide) c28
        refine z_aload_n dX10_of_72 rfl ?_
        refine z_iload_n dX10_of_73 rfl ?_
        refine s_callV1 l_Mo_166 (C_Mo_resultMany (i := wN w k - 1) hM hQ (by omega)) m0 dX10_of_74 rfl rfl (Nat.le_of_ble_eq_true rfl) (rrm (by omega) (by decide)) ?_
        refine z_ireturn dX10_of_77 rfl rfl ⟨Nat.le_refl _, Nat.le_refl _⟩ ?_
        subst hi
        first
          | exact ⟨rfl, _, rfl, hA⟩
          | (rw [srt_root hf]; exact ⟨rfl, _, rfl, hA⟩)
          | skip
      · have hi := ik 1 (by decide) c28
        refine z_aload_n dX10_of_78 rfl ?_
        refine z_iload_n dX10_of_79 rfl ?_
        refine s_callV1 l_Mo_153 (C_Mo_resultRuns (i := wN w k - 1) hM hQ (by omega)) m0 dX10_of_80 rfl rfl (Nat.le_of_ble_eq_true rfl) (rrm (by omega) (by decide)) ?_
        refine z_ireturn dX10_of_83 rfl rfl ⟨Nat.le_refl _, Nat.le_refl _⟩ ?_
        subst hi
        first
          | exact ⟨rfl, _, rfl, hA⟩
          | (rw [srt_root hf]; exact ⟨rfl, _, rfl, hA⟩)
          | skip
      · have hi := ik 2 (by decide) c28
        refine z_aload_n dX10_of_84 rfl ?_
        refine z_iload_n dX10_of_85 rfl ?_
        refine s_callV1 l_Mo_150 (C_Mo_cost hM hQ (wN w k - 1) (by omega)) m0 dX10_of_86 rfl rfl (Nat.le_of_ble_eq_true rfl) (rrm (by omega) (by decide)) ?_
        refine z_ireturn dX10_of_89 rfl rfl ⟨Nat.le_refl _, Nat.le_refl _⟩ ?_
        subst hi
        first
          | exact ⟨rfl, _, rfl, hA⟩
          | (rw [srt_root hf]; exact ⟨rfl, _, rfl, hA⟩)
          | skip
      · have hi := ik 3 (by decide) c28
        refine z_aload_n dX10_of_90 rfl ?_
        refine z_iload_n dX10_of_91 rfl ?_
        refine z_iconst 0 dX10_of_92 rfl ?_
        refine s_callV1 l_Mo_169 (C_Mo_rowAt (i := wN w k - 1) hM hQ (by omega)) m0 dX10_of_93 rfl rfl (Nat.le_of_ble_eq_true rfl) (rrm (by omega) (by decide)) ?_
        refine z_ireturn dX10_of_96 rfl rfl ⟨Nat.le_refl _, Nat.le_refl _⟩ ?_
        subst hi
        first
          | exact ⟨rfl, _, rfl, hA⟩
          | (rw [srt_root hf]; exact ⟨rfl, _, rfl, hA⟩)
          | skip
      · have hi := ik 4 (by decide) c28
        refine z_aload_n dX10_of_97 rfl ?_
        refine z_iload_n dX10_of_98 rfl ?_
        refine z_aload_n dX10_of_99 rfl ?_
        refine z_iload_n dX10_of_100 rfl ?_
        refine s_callV1 l_Mo_166 (C_Mo_resultMany (i := wN w k - 1) hM hQ (by omega)) m0 dX10_of_101 rfl rfl (Nat.le_of_ble_eq_true rfl) (rrm (by omega) (by decide)) ?_
        refine z_iconst 1 dX10_of_104 rfl ?_
        refine z_isub dX10_of_105 ?_
        refine s_callV1 l_Mo_169 (C_Mo_rowAt (i := wN w k - 1) hM hQ (by omega)) m0 dX10_of_106 rfl rfl (Nat.le_of_ble_eq_true rfl) (rrm (by omega) (by decide)) ?_
        refine z_ireturn dX10_of_109 rfl rfl ⟨Nat.le_refl _, Nat.le_refl _⟩ ?_
        subst hi
        first
          | exact ⟨rfl, _, rfl, hA⟩
          | (rw [srt_root hf]; exact ⟨rfl, _, rfl, hA⟩)
          | skip
      · have hi := ik 5 (by decide) c28
        refine z_aload_n dX10_of_110 rfl ?_
        refine z_iload_n dX10_of_111 rfl ?_
        refine z_iconst 0 dX10_of_112 rfl ?_
        refine s_callV1 l_Mo_156 (C_Mo_sortsIn (b := false) hM hQ (wN w k - 1) (by omega)) m0 dX10_of_113 rfl rfl (Nat.le_of_ble_eq_true rfl) (rrm (by omega) (by decide)) ?_
        refine z_ireturn dX10_of_116 rfl rfl ⟨Nat.le_refl _, Nat.le_refl _⟩ ?_
        subst hi
        first
          | exact ⟨rfl, _, rfl, hA⟩
          | (rw [srt_root hf]; exact ⟨rfl, _, rfl, hA⟩)
          | skip
      · have hi := ik 6 (by decide) c28
        refine z_aload_n dX10_of_117 rfl ?_
        refine z_iload_n dX10_of_118 rfl ?_
        refine z_iconst 1 dX10_of_119 rfl ?_
        refine s_callV1 l_Mo_156 (C_Mo_sortsIn (b := true) hM hQ (wN w k - 1) (by omega)) m0 dX10_of_120 rfl rfl (Nat.le_of_ble_eq_true rfl) (rrm (by omega) (by decide)) ?_
        refine z_ireturn dX10_of_123 rfl rfl ⟨Nat.le_refl _, Nat.le_refl _⟩ ?_
        subst hi
        first
          | exact ⟨rfl, _, rfl, hA⟩
          | (rw [srt_root hf]; exact ⟨rfl, _, rfl, hA⟩)
          | skip
      · have hi : i = 7 := by
          rcases Nat.lt_or_ge i 7 with z | z
          · exact absurd rfl (c28 _ (Nat.zero_le _) z)
          · omega
        refine z_aload_n dX10_of_124 rfl ?_
        refine z_iload_n dX10_of_125 rfl ?_
        refine s_callV1 l_Mo_160 (C_Mo_deepOf hM hQ (wN w k - 1) (by omega)) m0 dX10_of_126 rfl rfl (Nat.le_of_ble_eq_true rfl) (rrm (by omega) (by decide)) ?_
        refine z_ireturn dX10_of_129 rfl rfl ⟨Nat.le_refl _, Nat.le_refl _⟩ ?_
        subst hi
        first
          | exact ⟨rfl, _, rfl, hA⟩
          | (rw [srt_root hf]; exact ⟨rfl, _, rfl, hA⟩)
          | skip
    · refine z_iconst (-1) dX10_of_18 rfl ?_
      refine z_ireturn dX10_of_19 rfl rfl ⟨Nat.le_refl _, Nat.le_refl _⟩ ?_
      first
        | exact ⟨rfl, _, rfl, h0 (fun q => zoT q.1 c5)⟩
        | exact ⟨rfl, _, rfl, h0 (fun q => zoT q.2 c15)⟩
        | skip
theorem C_Mo_row {p r : Int32} (hM : tMo sh m) (hR : rMo S m w) (hW : wOK w) (h0 : ¬ (rg p (wq w) = true ∧ 0 ≤ r) → P (some (.int (-1))) S)
    (h1 : ∀ k, k < wq w → p = nI k → 0 ≤ r → P (some (.int (kOne (qI w k).1 (aN (wA w)) r))) S) : zR G m_Mo_row 60 sh [.ref m, .int p, .int r] S P := by
  obtain ⟨m0, a1, a2, a3, a4, a5, a6, a7, a8, a9, a10, a11, a12, a13, a14, a15, a16, a22⟩ := id hM
  obtain ⟨k1, k2, k3, ⟨k4, kr⟩, ⟨kL, ktx⟩, kt⟩ := id hR
  obtain ⟨g0, gi, ⟨g2, g2q⟩, ⟨g3, g3x⟩, g4⟩ := id hW
  obtain ⟨⟨b1, b2, b3, b4, b5⟩, ⟨e1, e2, e3, e4, e5⟩, eV, eM, eMo, eS, eB⟩ := id g0
  have hv : ∀ j, j < aN (wA w) → ∀ c, c < 4 → aV (wA w) j c < 16 := fun j hj c hc => (eV j hj c hc).2
  refine s_meth 0 ⟨p_Mo, rfl, Nat.le_of_ble_eq_true rfl⟩ rfl (fun sz => ?_)
  refine z_aload_n dX10_row_0 rfl ?_
  refine z_iload_n dX10_row_1 rfl ?_
  refine s_callV1 l_Mo_163 (C_Mo_isQuery hM k4 (by omega)) m0 dX10_row_2 rfl rfl (Nat.le_of_ble_eq_true rfl) (rrm (by omega) (by decide)) ?_
  refine z_if_eq 26 dX10_row_5 (by decide) (fun c5 => ?_) (fun c5 => ?_)
  · refine z_iconst (-1) dX10_row_26 rfl ?_
    refine z_ireturn dX10_row_27 rfl rfl ⟨Nat.le_refl _, Nat.le_refl _⟩ ?_
    first
      | exact ⟨rfl, _, rfl, h1 k hk rfl (Int32.not_lt.mp c9)⟩
      | exact ⟨rfl, _, rfl, h0 (fun q => zoT q.1 c5)⟩
      | exact ⟨rfl, _, rfl, h0 (fun q => Int32.not_lt.mpr q.2 c9)⟩
      | skip
  · refine z_iload_n dX10_row_8 rfl ?_
    refine z_if_lt 26 dX10_row_9 (by decide) (fun c9 => ?_) (fun c9 => ?_)
    · refine z_iconst (-1) dX10_row_26 rfl ?_
      refine z_ireturn dX10_row_27 rfl rfl ⟨Nat.le_refl _, Nat.le_refl _⟩ ?_
      first
        | exact ⟨rfl, _, rfl, h1 k hk rfl (Int32.not_lt.mp c9)⟩
        | exact ⟨rfl, _, rfl, h0 (fun q => zoT q.1 c5)⟩
        | exact ⟨rfl, _, rfl, h0 (fun q => Int32.not_lt.mpr q.2 c9)⟩
        | skip
    · obtain ⟨k, hk, rfl⟩ := rg_t (by omega) (zo_ne0.mp c5)
      have hQ := hR.mq hW hk
      have hN0 := (g2q k hk).1
      have hN50 := (g2q k hk).2.1
      refine z_aload_n dX10_row_12 rfl ?_
      refine z_aload_n dX10_row_13 rfl ?_
      refine s_getr f_Mo_21 dX10_row_14 (by assumption) rfl ?_
      refine z_iload_n dX10_row_17 rfl ?_
      refine s_iald dX10_row_18 a4 (vp_in_nI (by omega) (by decide)) ?_
      rw [nI_clamp (by omega), (kr k hk).1]
      refine z_iload_n dX10_row_19 rfl ?_
      refine s_callV1 l_Mo_169 (C_Mo_rowAt (i := wN w k - 1) hM hQ (by omega)) m0 dX10_row_20 rfl rfl (Nat.le_of_ble_eq_true rfl) (rrm (by omega) (by decide)) ?_
      refine z_goto 27 dX10_row_23 (by decide) ?_
      refine z_ireturn dX10_row_27 rfl rfl ⟨Nat.le_refl _, Nat.le_refl _⟩ ?_
      first
        | exact ⟨rfl, _, rfl, h1 k hk rfl (Int32.not_lt.mp c9)⟩
        | exact ⟨rfl, _, rfl, h0 (fun q => zoT q.1 c5)⟩
        | exact ⟨rfl, _, rfl, h0 (fun q => Int32.not_lt.mpr q.2 c9)⟩
        | skip
theorem C_Mo_grouped (hM : tMo sh m) (hQ : mQ S m n v q N nd stk) (hi : i < N) (hc : c < 4) : zN G m_Mo_grouped (i + 3) sh [.ref m, .int (nI (60 * q + i)), .int (nI c)] S none (fun S' => frS S (fun b => b = m + 12) S' ∧ ∀ k, k < 16 → za S' (m + 12) k = nI (gct (sem n v nd i).1 v n c k)) := by
  obtain ⟨m0, a1, a2, a3, a4, a5, a6, a7, a8, a9, a10, a11, a12, a13, a14, a15, a16, a22⟩ := id hM
  have hn := hQ.2.1
  have hv := hQ.2.2.1
  refine s_meth 1 ⟨p_Mo, rfl, Nat.le_of_ble_eq_true rfl⟩ rfl (fun sz => ?_)
  have loop : ∀ d r S', n - r = d → r ≤ n → frS S (fun b => b = m + 12) S' → (∀ k, k < 16 → za S' (m + 12) k = nI (gct (sem n v nd i).1 v r c k)) → zW G m_Mo_grouped (zRm (i + 3) 0 0) (zFm G (zP sh sz (fun r' S' => r' = none ∧ frS S (fun b => b = m + 12) S' ∧ ∀ k, k < 16 → za S' (m + 12) k = nI (gct (sem n v nd i).1 v n c k))) 0 0) 0 0 23 [some (.ref m), some (.int (nI (60 * q + i))), some (.int (nI c)), some (.int (nI r))] [] (zhp sh S') sz := by
    intro d
    induction d with
    | zero =>
      intro r S' h1 h2 h3 h4
      have hQ' := hQ.fr h3 ⟨by omega, fun b b1 b2 => by omega⟩
      have hr : r = n := by omega
      subst hr
      refine z_iload_n dX10_grouped_23 rfl ?_
      refine z_aload_n dX10_grouped_24 rfl ?_
      refine s_getr f_Mo_11 dX10_grouped_25 (by assumption) rfl ?_
      refine z_sipush 480 dX10_grouped_28 (by decide) ?_
      refine s_iald dX10_grouped_31 (by assumption) (by first | assumption | exact vp_in_nI (by omega) (by omega) | (unfold vp_in; decide)) ?_
      rw [show (480 : Int32).toNatClampNeg = 480 from rfl, hQ'.1.1]
      refine z_icmp_ge 73 dX10_grouped_32 (by decide) (fun c32 => ?_) (fun c32 => ?_)
      · refine z_return dX10_grouped_73 rfl ⟨Nat.le_refl _, Nat.le_refl _⟩ ?_
        exact ⟨rfl, _, rfl, rfl, h3, h4⟩
      · exact absurd (nI_le (Nat.le_refl _) (by omega)) c32
    | succ d ih =>
      intro r S' h1 h2 h3 h4
      have hQ' := hQ.fr h3 ⟨by omega, fun b b1 b2 => by omega⟩
      have hvv := hv r (by omega) c hc
      have next : ∀ B : Bool, (sem n v nd i).1 r = B → zW G m_Mo_grouped (zRm (i + 3) 0 0) (zFm G (zP sh sz (fun r' S' => r' = none ∧ frS S (fun b => b = m + 12) S' ∧ ∀ k, k < 16 → za S' (m + 12) k = nI (gct (sem n v nd i).1 v n c k))) 0 0) 0 0 23 [some (.ref m), some (.int (nI (60 * q + i))), some (.int (nI c)), some (.int (nI (r + 1)))] [] (zhp sh (zsa S' (m + 12) (v r c) (nI (gct (sem n v nd i).1 v r c (v r c) + if B = true then 1 else 0)))) sz := by
        intro B hB
        refine ih (r + 1) _ (by omega) (by omega) (h3.trans (frS.seta rfl)) (fun k hk => ?_)
        rw [gct_s, hB]
        by_cases e : k = v r c
        · subst e
          refine zup_same.trans ?_
          rw [decide_eq_true rfl, Bool.and_true]
        · refine (zup_ne (fun z => e z.2)).trans ?_
          refine (h4 k hk).trans ?_
          rw [decide_eq_false (fun z => e z.symm), Bool.and_false]
          rfl
      refine z_iload_n dX10_grouped_23 rfl ?_
      refine z_aload_n dX10_grouped_24 rfl ?_
      refine s_getr f_Mo_11 dX10_grouped_25 (by assumption) rfl ?_
      refine z_sipush 480 dX10_grouped_28 (by decide) ?_
      refine s_iald dX10_grouped_31 (by assumption) (by first | assumption | exact vp_in_nI (by omega) (by omega) | (unfold vp_in; decide)) ?_
      rw [show (480 : Int32).toNatClampNeg = 480 from rfl, hQ'.1.1]
      refine z_icmp_ge 73 dX10_grouped_32 (by decide) (fun c32 => ?_) (fun c32 => ?_)
      · exact absurd c32 (nI_ge (by omega) (by omega))
      · refine z_aload_n dX10_grouped_35 rfl ?_
        refine s_getr f_Mo_45 dX10_grouped_36 (by assumption) rfl ?_
        refine z_aload_n dX10_grouped_39 rfl ?_
        refine s_getr f_Mo_11 dX10_grouped_40 (by assumption) rfl ?_
        refine z_iconst 4 dX10_grouped_43 rfl ?_
        refine z_iload_n dX10_grouped_44 rfl ?_
        refine z_imul dX10_grouped_45 ?_
        refine z_iload_n dX10_grouped_46 rfl ?_
        refine z_iadd dX10_grouped_47 ?_
        rw [nI4]
        refine s_iald dX10_grouped_48 a1 (vp_in_nI (by omega) (by decide)) ?_
        rw [nI_clamp (by omega), hQ'.1.2 r (by omega) c hc]
        refine z_dup2 dX10_grouped_49 rfl rfl ?_
        refine s_iald dX10_grouped_50 a12 (vp_in_nI (by omega) (by decide)) ?_
        rw [nI_clamp (by omega), h4 _ hvv]
        refine z_aload_n dX10_grouped_51 rfl ?_
        refine z_iload_n dX10_grouped_52 rfl ?_
        refine z_iload_n dX10_grouped_53 rfl ?_
        refine s_callV1 l_Mo_146 (C_Mo_isSo hM hQ' (by omega) i hi) m0 dX10_grouped_54 rfl rfl (Nat.le_of_ble_eq_true rfl) (rrm (by omega) (by decide)) ?_
        refine z_if_eq 64 dX10_grouped_57 (by decide) (fun c57 => ?_) (fun c57 => ?_)
        · have hB := zo_eq0.mp c57
          refine z_iconst 0 dX10_grouped_64 rfl ?_
          refine z_iadd dX10_grouped_65 ?_
          refine s_iast dX10_grouped_66 a12 (vp_in_nI (by omega) (by decide)) ?_
          rw [nI_clamp (by omega)]
          refine z_iinc (lv' := [_, _, _, _]) 1 dX10_grouped_67 rfl (by decide) rfl rfl ?_
          refine z_goto 23 dX10_grouped_70 (by decide) ?_
          rw [nI_1]
          have nx := next _ hB
          first
            | (rw [nI_1]; exact nx)
            | (rw [Int32.add_zero]; exact nx)
            | skip
        · have hB := zo_ne0.mp c57
          refine z_iconst 1 dX10_grouped_60 rfl ?_
          refine z_goto 65 dX10_grouped_61 (by decide) ?_
          refine z_iadd dX10_grouped_65 ?_
          refine s_iast dX10_grouped_66 a12 (vp_in_nI (by omega) (by decide)) ?_
          rw [nI_clamp (by omega)]
          refine z_iinc (lv' := [_, _, _, _]) 1 dX10_grouped_67 rfl (by decide) rfl rfl ?_
          refine z_goto 23 dX10_grouped_70 (by decide) ?_
          rw [nI_1]
          have nx := next _ hB
          first
            | (rw [nI_1]; exact nx)
            | (rw [Int32.add_zero]; exact nx)
            | skip
  have zero : ∀ d i0 S', 16 - i0 = d → i0 ≤ 16 → frS S (fun b => b = m + 12) S' → (∀ k, k < i0 → za S' (m + 12) k = 0) → zW G m_Mo_grouped (zRm (i + 3) 0 0) (zFm G (zP sh sz (fun r' S' => r' = none ∧ frS S (fun b => b = m + 12) S' ∧ ∀ k, k < 16 → za S' (m + 12) k = nI (gct (sem n v nd i).1 v n c k))) 0 0) 0 0 2 [some (.ref m), some (.int (nI (60 * q + i))), some (.int (nI c)), some (.int (nI i0))] [] (zhp sh S') sz := by
    intro d
    induction d with
    | zero =>
      intro i0 S' h1 h2 h3 h4
      have hr : i0 = 16 := by omega
      subst hr
      refine z_iload_n dX10_grouped_2 rfl ?_
      refine z_bipush 16 dX10_grouped_3 (by decide) ?_
      refine z_icmp_ge 21 dX10_grouped_5 (by decide) (fun c5 => ?_) (fun c5 => ?_)
      · refine z_iconst 0 dX10_grouped_21 rfl ?_
        refine z_istore_n (lv' := [_, _, _, _]) dX10_grouped_22 (by decide) rfl ?_
        exact loop n 0 S' rfl (Nat.zero_le _) h3 h4
      · exact absurd (nI_le (a := 16) (b := 16) (Nat.le_refl _) (by decide)) c5
    | succ d ih =>
      intro i0 S' h1 h2 h3 h4
      refine z_iload_n dX10_grouped_2 rfl ?_
      refine z_bipush 16 dX10_grouped_3 (by decide) ?_
      refine z_icmp_ge 21 dX10_grouped_5 (by decide) (fun c5 => ?_) (fun c5 => ?_)
      · exact absurd c5 (nI_ge (b := 16) (by omega) (by decide))
      · refine z_aload_n dX10_grouped_8 rfl ?_
        refine s_getr f_Mo_45 dX10_grouped_9 (by assumption) rfl ?_
        refine z_iload_n dX10_grouped_12 rfl ?_
        refine z_iconst 0 dX10_grouped_13 rfl ?_
        refine s_iast dX10_grouped_14 a12 (vp_in_nI (by omega) (by decide)) ?_
        refine z_iinc (lv' := [_, _, _, _]) 1 dX10_grouped_15 rfl (by decide) rfl rfl ?_
        refine z_goto 2 dX10_grouped_18 (by decide) ?_
        rw [nI_1, nI_clamp (by omega)]
        refine ih (i0 + 1) _ (by omega) (by omega) (h3.trans (frS.seta rfl)) (fun k hk => ?_)
        by_cases e : k = i0
        · subst e; exact zup_same
        · exact (zup_ne (fun z => e z.2)).trans (h4 k (by omega))
  refine z_iconst 0 dX10_grouped_0 rfl ?_
  refine z_istore_n (lv' := [_, _, _, _]) dX10_grouped_1 (by decide) rfl ?_
  exact zero 16 0 S rfl (by decide) frS.rf (fun k hk => absurd hk (Nat.not_lt_zero _))
theorem C_Mo_group {p r s : Int32} (hM : tMo sh m) (hR : rMo S m w) (hW : wOK w) (h0 : ¬ (rg p (wq w) = true ∧ rg r 4 = true ∧ rg s 16 = true) → P (some (.int (-1))) S)
    (h1 : ∀ k c v S', k < wq w → p = nI k → c < 4 → r = nI c → v < 16 → s = nI v → frS S (fun b => b = m + 12) S' → P (some (.int (nI (gct (qI w k).1 (aV (wA w)) (aN (wA w)) c v)))) S') : zR G m_Mo_group 60 sh [.ref m, .int p, .int r, .int s] S P := by
  obtain ⟨m0, a1, a2, a3, a4, a5, a6, a7, a8, a9, a10, a11, a12, a13, a14, a15, a16, a22⟩ := id hM
  obtain ⟨k1, k2, k3, ⟨k4, kr⟩, ⟨kL, ktx⟩, kt⟩ := id hR
  obtain ⟨g0, gi, ⟨g2, g2q⟩, ⟨g3, g3x⟩, g4⟩ := id hW
  obtain ⟨⟨b1, b2, b3, b4, b5⟩, ⟨e1, e2, e3, e4, e5⟩, eV, eM, eMo, eS, eB⟩ := id g0
  have hv : ∀ j, j < aN (wA w) → ∀ c, c < 4 → aV (wA w) j c < 16 := fun j hj c hc => (eV j hj c hc).2
  refine s_meth 0 ⟨p_Mo, rfl, Nat.le_of_ble_eq_true rfl⟩ rfl (fun sz => ?_)
  refine z_aload_n dX10_group_0 rfl ?_
  refine z_iload_n dX10_group_1 rfl ?_
  refine s_callV1 l_Mo_163 (C_Mo_isQuery hM k4 (by omega)) m0 dX10_group_2 rfl rfl (Nat.le_of_ble_eq_true rfl) (rrm (by omega) (by decide)) ?_
  refine z_if_eq 27 dX10_group_5 (by decide) (fun c5 => ?_) (fun c5 => ?_)
  · refine z_iconst (-1) dX10_group_27 rfl ?_
    refine z_ireturn dX10_group_28 rfl rfl ⟨Nat.le_refl _, Nat.le_refl _⟩ ?_
    first
      | exact ⟨rfl, _, rfl, h0 (fun q => zoT q.1 c5)⟩
      | exact ⟨rfl, _, rfl, h0 (fun q => zoT q.2.1 c14)⟩
      | exact ⟨rfl, _, rfl, h0 (fun q => zoT q.2.2 c24)⟩
      | skip
  · refine z_iload_n dX10_group_8 rfl ?_
    refine z_iconst 0 dX10_group_9 rfl ?_
    refine z_iconst 3 dX10_group_10 rfl ?_
    refine s_callS1 l_Mo_63 (C_Mo_in0 (n := 4) (by decide) (by decide)) dX10_group_11 rfl rfl (Nat.le_of_ble_eq_true rfl) (rrm (by omega) (by decide)) ?_
    refine z_if_eq 27 dX10_group_14 (by decide) (fun c14 => ?_) (fun c14 => ?_)
    · refine z_iconst (-1) dX10_group_27 rfl ?_
      refine z_ireturn dX10_group_28 rfl rfl ⟨Nat.le_refl _, Nat.le_refl _⟩ ?_
      first
        | exact ⟨rfl, _, rfl, h0 (fun q => zoT q.1 c5)⟩
        | exact ⟨rfl, _, rfl, h0 (fun q => zoT q.2.1 c14)⟩
        | exact ⟨rfl, _, rfl, h0 (fun q => zoT q.2.2 c24)⟩
        | skip
    · refine z_iload_n dX10_group_17 rfl ?_
      refine z_iconst 0 dX10_group_18 rfl ?_
      refine z_bipush 15 dX10_group_19 (by decide) ?_
      refine s_callS1 l_Mo_63 (C_Mo_in0 (n := 16) (by decide) (by decide)) dX10_group_21 rfl rfl (Nat.le_of_ble_eq_true rfl) (rrm (by omega) (by decide)) ?_
      refine z_if_ne 29 dX10_group_24 (by decide) (fun c24 => ?_) (fun c24 => ?_)
      · obtain ⟨k, hk, rfl⟩ := rg_t (by omega) (zo_ne0.mp c5)
        obtain ⟨c, hc, rfl⟩ := rg_t (by decide) (zo_ne0.mp c14)
        obtain ⟨v, hvv, rfl⟩ := rg_t (by decide) (zo_ne0.mp c24)
        have hQ := hR.mq hW hk
        have hN0 := (g2q k hk).1
        have hN50 := (g2q k hk).2.1
        refine z_aload_n dX10_group_29 rfl ?_
        refine z_aload_n dX10_group_30 rfl ?_
        refine s_getr f_Mo_21 dX10_group_31 (by assumption) rfl ?_
        refine z_iload_n dX10_group_34 rfl ?_
        refine s_iald dX10_group_35 a4 (vp_in_nI (by omega) (by decide)) ?_
        rw [nI_clamp (by omega), (kr k hk).1]
        refine z_iload_n dX10_group_36 rfl ?_
        refine n_callV0 l_Mo_172 (C_Mo_grouped (i := wN w k - 1) hM hQ (by omega) hc) m0 dX10_group_37 rfl rfl (Nat.le_of_ble_eq_true rfl) (rrm (by omega) (by decide)) (fun S37 q37 => ?_)
        refine z_aload_n dX10_group_40 rfl ?_
        refine s_getr f_Mo_45 dX10_group_41 (by assumption) rfl ?_
        refine z_iload_n dX10_group_44 rfl ?_
        refine s_iald dX10_group_45 a12 (vp_in_nI hvv (by decide)) ?_
        refine z_ireturn dX10_group_46 rfl rfl ⟨Nat.le_refl _, Nat.le_refl _⟩ ?_
        rw [nI_clamp (by omega), q37.2 v hvv]
        exact ⟨rfl, _, rfl, h1 k c v _ hk rfl hc rfl hvv rfl q37.1⟩
      · refine z_iconst (-1) dX10_group_27 rfl ?_
        refine z_ireturn dX10_group_28 rfl rfl ⟨Nat.le_refl _, Nat.le_refl _⟩ ?_
        first
          | exact ⟨rfl, _, rfl, h0 (fun q => zoT q.1 c5)⟩
          | exact ⟨rfl, _, rfl, h0 (fun q => zoT q.2.1 c14)⟩
          | exact ⟨rfl, _, rfl, h0 (fun q => zoT q.2.2 c24)⟩
          | skip
theorem C_Mo_edge {p r s : Int32} (hM : tMo sh m) (hR : rMo S m w) (hW : wOK w) (h0 : ¬ (rg p (wq w) = true ∧ rg r 4 = true ∧ rg s 5 = true) → P (some (.int (-1))) S)
    (h1 : ∀ k c i S', k < wq w → p = nI k → c < 4 → r = nI c → i < 5 → s = nI i → frS S (fun b => b = m + 12) S' → P (some (.int (edA w k c i))) S') : zR G m_Mo_edge 60 sh [.ref m, .int p, .int r, .int s] S P := by
  obtain ⟨m0, a1, a2, a3, a4, a5, a6, a7, a8, a9, a10, a11, a12, a13, a14, a15, a16, a22⟩ := id hM
  obtain ⟨k1, k2, k3, ⟨k4, kr⟩, ⟨kL, ktx⟩, kt⟩ := id hR
  obtain ⟨g0, gi, ⟨g2, g2q⟩, ⟨g3, g3x⟩, g4⟩ := id hW
  obtain ⟨⟨b1, b2, b3, b4, b5⟩, ⟨e1, e2, e3, e4, e5⟩, eV, eM, eMo, eS, eB⟩ := id g0
  have hv : ∀ j, j < aN (wA w) → ∀ c, c < 4 → aV (wA w) j c < 16 := fun j hj c hc => (eV j hj c hc).2
  clear eM
  refine s_meth 8 ⟨p_Mo, rfl, Nat.le_of_ble_eq_true rfl⟩ rfl (fun sz => ?_)
  have loop : ∀ k c e S' (z : Nat → Nat) all, k < wq w → p = nI k → c < 4 → r = nI c → e < 5 → s = nI e → frS S (fun b => b = m + 12) S' → z = gct (qI w k).1 (aV (wA w)) (aN (wA w)) c → all = qct w k → (∀ i, i < 16 → za S' (m + 12) i = nI (z i)) → (∀ i, z i ≤ 120) → all ≤ 120 → ∀ d i, 16 - i = d → i ≤ 16 → zW G m_Mo_edge (zRm 60 0 0) (zFm G (zP sh sz P) 0 0) 0 0 76 [some (.ref m), some (.int p), some (.int r), some (.int s), some (.int (nI all)), some (.int (eL z i)), some (.int (eG z i)), some (.int (eM z all i)), some (.int (nI (eU z i))), some (.int (eX z i)), some (.int (nI (fb_sm z i))), some (.int (nI i))] [] (zhp sh S') sz := by
    intro k c e S' z all hk hp hc hr he hs hf hz hall hzg hzb hab d
    have hA := h1 k c e S' hk hp hc hr he hs hf
    induction d with
    | zero =>
      intro i g1 g2
      have hi : i = 16 := by omega
      subst hi
      subst hz
      subst hall
      subst hs
      have ie : ∀ t, t < 5 → nI e = nI t → e = t := fun t ht h => (nI_eq (by omega) (by omega)).mp h
      have ine : ∀ t, t < 5 → ¬ nI e = nI t → ¬ e = t := fun t ht h q => h (by rw [q])
      refine z_iload dX10_edge_76 rfl ?_
      refine z_bipush 16 dX10_edge_78 (by decide) ?_
      refine z_icmp_ge 186 dX10_edge_80 (by decide) (fun c80 => ?_) (fun c80 => ?_)
      · refine z_iload_n dX10_edge_186 rfl ?_
        refine z_if_ne 195 dX10_edge_187 (by decide) (fun c187 => ?_) (fun c187 => ?_)
        · have n0 := ine 0 (by decide) c187
          refine z_iload_n dX10_edge_195 rfl ?_
          refine z_iconst 1 dX10_edge_196 rfl ?_
          refine z_icmp_ne 205 dX10_edge_197 (by decide) (fun c197 => ?_) (fun c197 => ?_)
          · have n1 := ine 1 (by decide) c197
            refine z_iload_n dX10_edge_205 rfl ?_
            refine z_iconst 2 dX10_edge_206 rfl ?_
            refine z_icmp_ne 215 dX10_edge_207 (by decide) (fun c207 => ?_) (fun c207 => ?_)
            · have n2 := ine 2 (by decide) c207
              refine z_iload_n dX10_edge_215 rfl ?_
              refine z_iconst 3 dX10_edge_216 rfl ?_
              refine z_icmp_ne 225 dX10_edge_217 (by decide) (fun c217 => ?_) (fun c217 => ?_)
              · have n3 := ine 3 (by decide) c217
                have e0 : e = 4 := by omega
                refine z_iload dX10_edge_225 rfl ?_
                refine z_ireturn dX10_edge_227 rfl rfl ⟨Nat.le_refl _, Nat.le_refl _⟩ ?_
                subst e0
                exact ⟨rfl, _, rfl, hA⟩
              · have e0 := ie 3 (by decide) c217
                refine z_iload dX10_edge_220 rfl ?_
                refine z_goto 227 dX10_edge_222 (by decide) ?_
                refine z_ireturn dX10_edge_227 rfl rfl ⟨Nat.le_refl _, Nat.le_refl _⟩ ?_
                subst e0
                exact ⟨rfl, _, rfl, hA⟩
            · have e0 := ie 2 (by decide) c207
              refine z_iload dX10_edge_210 rfl ?_
              refine z_goto 227 dX10_edge_212 (by decide) ?_
              refine z_ireturn dX10_edge_227 rfl rfl ⟨Nat.le_refl _, Nat.le_refl _⟩ ?_
              subst e0
              exact ⟨rfl, _, rfl, hA⟩
          · have e0 := ie 1 (by decide) c197
            refine z_iload dX10_edge_200 rfl ?_
            refine z_goto 227 dX10_edge_202 (by decide) ?_
            refine z_ireturn dX10_edge_227 rfl rfl ⟨Nat.le_refl _, Nat.le_refl _⟩ ?_
            subst e0
            exact ⟨rfl, _, rfl, hA⟩
        · have e0 := ie 0 (by decide) c187
          refine z_iload dX10_edge_190 rfl ?_
          refine z_goto 227 dX10_edge_192 (by decide) ?_
          refine z_ireturn dX10_edge_227 rfl rfl ⟨Nat.le_refl _, Nat.le_refl _⟩ ?_
          subst e0
          exact ⟨rfl, _, rfl, hA⟩
      · exact absurd (nI_le (a := 16) (b := 16) (Nat.le_refl _) (by decide)) c80
    | succ d ih =>
      intro i g1 g2
      have ih2 := ih (i + 1) (by omega) (by omega)
      have eLs : eL z (i + 1) = if 0 < z i then (if eL z i < 0 then nI i else eL z i) else eL z i := rfl
      have eGs : eG z (i + 1) = if 0 < z i then nI i else eG z i := rfl
      have eMs : eM z all (i + 1) = if 0 < z i then (if eM z all i < 0 ∧ all ≤ 2 * fb_sm z (i + 1) then nI i else eM z all i) else eM z all i := rfl
      have eUs : eU z (i + 1) = eU z i + (if decide (0 < z i) = true then 1 else 0) := fb_ct_succ _ _
      have eXs : eX z (i + 1) = if 0 < z i then (if eX z i < 0 ∨ z (eX z i).toNatClampNeg < z i then nI i else eX z i) else eX z i := rfl
      have eSs : fb_sm z (i + 1) = fb_sm z i + z i := rfl
      have zi120 := hzb i
      have smb : fb_sm z (i + 1) ≤ 16 * 120 := Nat.le_trans (fb_sm_bound (c := 120) (fun j hj => hzb j)) (Nat.mul_le_mul_right _ (by omega))
      have k178 : 0 < z i → ∀ X, X = (if eX z i < 0 ∨ z (eX z i).toNatClampNeg < z i then nI i else eX z i) → zW G m_Mo_edge (zRm 60 0 0) (zFm G (zP sh sz P) 0 0) 0 0 178 [some (.ref m), some (.int p), some (.int r), some (.int s), some (.int (nI all)), some (.int (if eL z i < 0 then nI i else eL z i)), some (.int (nI i)), some (.int (if eM z all i < 0 ∧ all ≤ 2 * fb_sm z (i + 1) then nI i else eM z all i)), some (.int (nI (eU z i + 1))), some (.int (eX z i)), some (.int (nI (fb_sm z (i + 1)))), some (.int (nI i))] [.int X] (zhp sh S') sz := by
        intro hz0 X hX
        rw [eLs, eGs, eMs, eUs, eXs, if_pos hz0, if_pos hz0, if_pos hz0, if_pos hz0, decide_eq_true hz0] at ih2
        refine z_istore (lv' := [_, _, _, _, _, _, _, _, _, _, _, _]) dX10_edge_178 (by decide) rfl ?_
        refine z_iinc (lv' := [_, _, _, _, _, _, _, _, _, _, _, _]) 1 dX10_edge_180 rfl (by decide) rfl rfl ?_
        refine z_goto 76 dX10_edge_183 (by decide) ?_
        rw [nI_1, hX]
        exact ih2
      have k144 : 0 < z i → ∀ Y, Y = (if eM z all i < 0 ∧ all ≤ 2 * fb_sm z (i + 1) then nI i else eM z all i) → zW G m_Mo_edge (zRm 60 0 0) (zFm G (zP sh sz P) 0 0) 0 0 144 [some (.ref m), some (.int p), some (.int r), some (.int s), some (.int (nI all)), some (.int (if eL z i < 0 then nI i else eL z i)), some (.int (nI i)), some (.int (eM z all i)), some (.int (nI (eU z i))), some (.int (eX z i)), some (.int (nI (fb_sm z (i + 1)))), some (.int (nI i))] [.int Y] (zhp sh S') sz := by
        intro hz0 Y hY
        subst hY
        refine z_istore (lv' := [_, _, _, _, _, _, _, _, _, _, _, _]) dX10_edge_144 (by decide) rfl ?_
        refine z_iinc (lv' := [_, _, _, _, _, _, _, _, _, _, _, _]) 1 dX10_edge_146 rfl (by decide) rfl rfl ?_
        rw [nI_1]
        refine z_iload dX10_edge_149 rfl ?_
        refine z_if_lt 171 dX10_edge_151 (by decide) (fun c151 => ?_) (fun c151 => ?_)
        · refine z_iload dX10_edge_171 rfl ?_
          refine z_goto 178 dX10_edge_173 (by decide) ?_
          first
            | exact k178 hz0 _ (by rw [if_pos (Or.inl c151)])
            | exact k178 hz0 _ (by rw [if_pos (Or.inr (by rw [eb, nI_clamp (by omega)]; exact i_nle (by omega) c168))])
            | exact k178 hz0 _ (by rw [if_neg (fun q => q.elim c151 (fun q => by rw [eb, nI_clamp (by omega)] at q; have := i_le (by omega) (by omega) c168; omega))])
            | skip
        · obtain ⟨b, hb, eb⟩ := (eX_rng z i).resolve_left (fun q => c151 (by rw [q]; decide))
          have zb120 := hzb b
          refine z_aload_n dX10_edge_154 rfl ?_
          refine s_getr f_Mo_45 dX10_edge_155 (by assumption) rfl ?_
          refine z_iload dX10_edge_158 rfl ?_
          refine s_iald dX10_edge_160 a12 (vp_in_nI (by omega) (by decide)) ?_
          rw [nI_clamp (by omega), hzg i (by omega)]
          refine z_aload_n dX10_edge_161 rfl ?_
          refine s_getr f_Mo_45 dX10_edge_162 (by assumption) rfl ?_
          refine z_iload dX10_edge_165 rfl ?_
          refine s_iald dX10_edge_167 a12 (by rw [eb]; exact vp_in_nI (by omega) (by decide)) ?_
          rw [show za S' (m + 12) (eX z i).toNatClampNeg = nI (z b) from by rw [eb, nI_clamp (by omega)]; exact hzg b (by omega)]
          refine z_icmp_le 176 dX10_edge_168 (by decide) (fun c168 => ?_) (fun c168 => ?_)
          · refine z_iload dX10_edge_176 rfl ?_
            first
              | exact k178 hz0 _ (by rw [if_pos (Or.inl c151)])
              | exact k178 hz0 _ (by rw [if_pos (Or.inr (by rw [eb, nI_clamp (by omega)]; exact i_nle (by omega) c168))])
              | exact k178 hz0 _ (by rw [if_neg (fun q => q.elim c151 (fun q => by rw [eb, nI_clamp (by omega)] at q; have := i_le (by omega) (by omega) c168; omega))])
              | skip
          · refine z_iload dX10_edge_171 rfl ?_
            refine z_goto 178 dX10_edge_173 (by decide) ?_
            first
              | exact k178 hz0 _ (by rw [if_pos (Or.inl c151)])
              | exact k178 hz0 _ (by rw [if_pos (Or.inr (by rw [eb, nI_clamp (by omega)]; exact i_nle (by omega) c168))])
              | exact k178 hz0 _ (by rw [if_neg (fun q => q.elim c151 (fun q => by rw [eb, nI_clamp (by omega)] at q; have := i_le (by omega) (by omega) c168; omega))])
              | skip
      have k117 : 0 < z i → ∀ Z, Z = (if eL z i < 0 then nI i else eL z i) → zW G m_Mo_edge (zRm 60 0 0) (zFm G (zP sh sz P) 0 0) 0 0 117 [some (.ref m), some (.int p), some (.int r), some (.int s), some (.int (nI all)), some (.int (eL z i)), some (.int (eG z i)), some (.int (eM z all i)), some (.int (nI (eU z i))), some (.int (eX z i)), some (.int (nI (fb_sm z (i + 1)))), some (.int (nI i))] [.int Z] (zhp sh S') sz := by
        intro hz0 Z hZ
        subst hZ
        refine z_istore (lv' := [_, _, _, _, _, _, _, _, _, _, _, _]) dX10_edge_117 (by decide) rfl ?_
        refine z_iload dX10_edge_119 rfl ?_
        refine z_istore (lv' := [_, _, _, _, _, _, _, _, _, _, _, _]) dX10_edge_121 (by decide) rfl ?_
        refine z_iload dX10_edge_123 rfl ?_
        refine z_if_ge 142 dX10_edge_125 (by decide) (fun c125 => ?_) (fun c125 => ?_)
        · have hY : eM z all i = (if eM z all i < 0 ∧ all ≤ 2 * fb_sm z (i + 1) then nI i else eM z all i) := (if_neg (fun q => Int32.not_lt.mpr c125 q.1)).symm
          refine z_iload dX10_edge_142 rfl ?_
          exact k144 hz0 _ hY
        · refine z_iconst 2 dX10_edge_128 rfl ?_
          refine z_iload dX10_edge_129 rfl ?_
          refine z_imul dX10_edge_131 ?_
          rw [nI21]
          refine z_iload dX10_edge_132 rfl ?_
          refine z_icmp_lt 142 dX10_edge_134 (by decide) (fun c134 => ?_) (fun c134 => ?_)
          · have hY : eM z all i = (if eM z all i < 0 ∧ all ≤ 2 * fb_sm z (i + 1) then nI i else eM z all i) := (if_neg (fun q => by have := i_lt (by omega) (by omega) c134; omega)).symm
            refine z_iload dX10_edge_142 rfl ?_
            exact k144 hz0 _ hY
          · have hY : nI i = (if eM z all i < 0 ∧ all ≤ 2 * fb_sm z (i + 1) then nI i else eM z all i) := (if_pos ⟨Int32.not_le.mp c125, i_nlt (by omega) c134⟩).symm
            refine z_iload dX10_edge_137 rfl ?_
            refine z_goto 144 dX10_edge_139 (by decide) ?_
            exact k144 hz0 _ hY
      refine z_iload dX10_edge_76 rfl ?_
      refine z_bipush 16 dX10_edge_78 (by decide) ?_
      refine z_icmp_ge 186 dX10_edge_80 (by decide) (fun c80 => ?_) (fun c80 => ?_)
      · exact absurd c80 (nI_ge (b := 16) (by omega) (by decide))
      · refine z_aload_n dX10_edge_83 rfl ?_
        refine s_getr f_Mo_45 dX10_edge_84 (by assumption) rfl ?_
        refine z_iload dX10_edge_87 rfl ?_
        refine s_iald dX10_edge_89 a12 (vp_in_nI (by omega) (by decide)) ?_
        rw [nI_clamp (by omega), hzg i (by omega)]
        refine z_if_le 180 dX10_edge_90 (by decide) (fun c90 => ?_) (fun c90 => ?_)
        · have hz0 : ¬ 0 < z i := by have := (n0I (m := z i) (by omega)).mp c90; omega
          rw [eLs, eGs, eMs, eUs, eXs, eSs, if_neg hz0, if_neg hz0, if_neg hz0, if_neg hz0, decide_eq_false hz0, show z i = 0 by omega] at ih2
          refine z_iinc (lv' := [_, _, _, _, _, _, _, _, _, _, _, _]) 1 dX10_edge_180 rfl (by decide) rfl rfl ?_
          refine z_goto 76 dX10_edge_183 (by decide) ?_
          rw [nI_1]
          exact ih2
        · have hz0 : 0 < z i := by
            rcases Nat.eq_zero_or_pos (z i) with q | q
            · exact absurd ((n0I (m := z i) (by omega)).mpr q) c90
            · exact q
          refine z_iload dX10_edge_93 rfl ?_
          refine z_aload_n dX10_edge_95 rfl ?_
          refine s_getr f_Mo_45 dX10_edge_96 (by assumption) rfl ?_
          refine z_iload dX10_edge_99 rfl ?_
          refine s_iald dX10_edge_101 a12 (vp_in_nI (by omega) (by decide)) ?_
          rw [nI_clamp (by omega), hzg i (by omega)]
          refine z_iadd dX10_edge_102 ?_
          rw [nI_add, ← eSs]
          refine z_istore (lv' := [_, _, _, _, _, _, _, _, _, _, _, _]) dX10_edge_103 (by decide) rfl ?_
          refine z_iload dX10_edge_105 rfl ?_
          refine z_if_ge 115 dX10_edge_107 (by decide) (fun c107 => ?_) (fun c107 => ?_)
          · refine z_iload dX10_edge_115 rfl ?_
            first
              | exact k117 hz0 _ (by rw [if_neg (Int32.not_lt.mpr c107)])
              | exact k117 hz0 _ (by rw [if_pos (Int32.not_le.mp c107)])
              | skip
          · refine z_iload dX10_edge_110 rfl ?_
            refine z_goto 117 dX10_edge_112 (by decide) ?_
            first
              | exact k117 hz0 _ (by rw [if_neg (Int32.not_lt.mpr c107)])
              | exact k117 hz0 _ (by rw [if_pos (Int32.not_le.mp c107)])
              | skip
  refine z_aload_n dX10_edge_0 rfl ?_
  refine z_iload_n dX10_edge_1 rfl ?_
  refine s_callV1 l_Mo_163 (C_Mo_isQuery hM k4 (by omega)) m0 dX10_edge_2 rfl rfl (Nat.le_of_ble_eq_true rfl) (rrm (by omega) (by decide)) ?_
  refine z_if_eq 26 dX10_edge_5 (by decide) (fun c5 => ?_) (fun c5 => ?_)
  · refine z_iconst (-1) dX10_edge_26 rfl ?_
    refine z_ireturn dX10_edge_27 rfl rfl ⟨Nat.le_refl _, Nat.le_refl _⟩ ?_
    first
      | exact ⟨rfl, _, rfl, h0 (fun q => zoT q.1 c5)⟩
      | exact ⟨rfl, _, rfl, h0 (fun q => zoT q.2.1 c14)⟩
      | exact ⟨rfl, _, rfl, h0 (fun q => zoT q.2.2 c23)⟩
      | skip
  · refine z_iload_n dX10_edge_8 rfl ?_
    refine z_iconst 0 dX10_edge_9 rfl ?_
    refine z_iconst 3 dX10_edge_10 rfl ?_
    refine s_callS1 l_Mo_63 (C_Mo_in0 (n := 4) (by decide) (by decide)) dX10_edge_11 rfl rfl (Nat.le_of_ble_eq_true rfl) (rrm (by omega) (by decide)) ?_
    refine z_if_eq 26 dX10_edge_14 (by decide) (fun c14 => ?_) (fun c14 => ?_)
    · refine z_iconst (-1) dX10_edge_26 rfl ?_
      refine z_ireturn dX10_edge_27 rfl rfl ⟨Nat.le_refl _, Nat.le_refl _⟩ ?_
      first
        | exact ⟨rfl, _, rfl, h0 (fun q => zoT q.1 c5)⟩
        | exact ⟨rfl, _, rfl, h0 (fun q => zoT q.2.1 c14)⟩
        | exact ⟨rfl, _, rfl, h0 (fun q => zoT q.2.2 c23)⟩
        | skip
    · refine z_iload_n dX10_edge_17 rfl ?_
      refine z_iconst 0 dX10_edge_18 rfl ?_
      refine z_iconst 4 dX10_edge_19 rfl ?_
      refine s_callS1 l_Mo_63 (C_Mo_in0 (n := 5) (by decide) (by decide)) dX10_edge_20 rfl rfl (Nat.le_of_ble_eq_true rfl) (rrm (by omega) (by decide)) ?_
      refine z_if_ne 28 dX10_edge_23 (by decide) (fun c23 => ?_) (fun c23 => ?_)
      · obtain ⟨k, hk, rfl⟩ := rg_t (by omega) (zo_ne0.mp c5)
        obtain ⟨c, hc, rfl⟩ := rg_t (by decide) (zo_ne0.mp c14)
        obtain ⟨e, he, hse⟩ := rg_t (by decide) (zo_ne0.mp c23)
        have hQ := hR.mq hW hk
        have hN0 := (g2q k hk).1
        have hN50 := (g2q k hk).2.1
        refine z_aload_n dX10_edge_28 rfl ?_
        refine z_aload_n dX10_edge_29 rfl ?_
        refine s_getr f_Mo_21 dX10_edge_30 (by assumption) rfl ?_
        refine z_iload_n dX10_edge_33 rfl ?_
        refine s_iald dX10_edge_34 a4 (vp_in_nI (by omega) (by decide)) ?_
        rw [nI_clamp (by omega), (kr k hk).1]
        refine z_iload_n dX10_edge_35 rfl ?_
        refine n_callV0 l_Mo_172 (C_Mo_grouped (i := wN w k - 1) hM hQ (by omega) hc) m0 dX10_edge_36 rfl rfl (Nat.le_of_ble_eq_true rfl) (rrm (by omega) (by decide)) (fun S36 q36 => ?_)
        have hQ2 := hQ.fr q36.1 ⟨by omega, fun b b1 b2 => by omega⟩
        refine z_aload_n dX10_edge_39 rfl ?_
        refine z_aload_n dX10_edge_40 rfl ?_
        refine s_getr f_Mo_21 dX10_edge_41 (by assumption) rfl ?_
        refine z_iload_n dX10_edge_44 rfl ?_
        refine s_iald dX10_edge_45 a4 (vp_in_nI (by omega) (by decide)) ?_
        rw [nI_clamp (by omega), show za S36 (m + 4) k = _ from (congrFun (q36.1 _ (by omega)).2.2.1 k).trans (kr k hk).1]
        refine s_callV1 l_Mo_166 (C_Mo_resultMany (i := wN w k - 1) hM hQ2 (by omega)) m0 dX10_edge_46 rfl rfl (Nat.le_of_ble_eq_true rfl) (rrm (by omega) (by decide)) ?_
        refine z_istore (lv' := [_, _, _, _, _, _, _, _, _, _, _, _]) dX10_edge_49 (by decide) rfl ?_
        refine z_bipush (-5) dX10_edge_51 (by decide) ?_
        refine z_istore (lv' := [_, _, _, _, _, _, _, _, _, _, _, _]) dX10_edge_53 (by decide) rfl ?_
        refine z_bipush (-5) dX10_edge_55 (by decide) ?_
        refine z_istore (lv' := [_, _, _, _, _, _, _, _, _, _, _, _]) dX10_edge_57 (by decide) rfl ?_
        refine z_bipush (-5) dX10_edge_59 (by decide) ?_
        refine z_istore (lv' := [_, _, _, _, _, _, _, _, _, _, _, _]) dX10_edge_61 (by decide) rfl ?_
        refine z_iconst 0 dX10_edge_63 rfl ?_
        refine z_istore (lv' := [_, _, _, _, _, _, _, _, _, _, _, _]) dX10_edge_64 (by decide) rfl ?_
        refine z_bipush (-5) dX10_edge_66 (by decide) ?_
        refine z_istore (lv' := [_, _, _, _, _, _, _, _, _, _, _, _]) dX10_edge_68 (by decide) rfl ?_
        refine z_iconst 0 dX10_edge_70 rfl ?_
        refine z_istore (lv' := [_, _, _, _, _, _, _, _, _, _, _, _]) dX10_edge_71 (by decide) rfl ?_
        refine z_iconst 0 dX10_edge_73 rfl ?_
        refine z_istore (lv' := [_, _, _, _, _, _, _, _, _, _, _, _]) dX10_edge_74 (by decide) rfl ?_
        exact loop k c e S36 _ _ hk rfl hc rfl he hse q36.1 rfl rfl q36.2 (fun i => Nat.le_trans (gct_le _ _ _ _ _) b1) (Nat.le_trans (fb_ct_le _ _) b1) 16 0 rfl (by decide)
      · refine z_iconst (-1) dX10_edge_26 rfl ?_
        refine z_ireturn dX10_edge_27 rfl rfl ⟨Nat.le_refl _, Nat.le_refl _⟩ ?_
        first
          | exact ⟨rfl, _, rfl, h0 (fun q => zoT q.1 c5)⟩
          | exact ⟨rfl, _, rfl, h0 (fun q => zoT q.2.1 c14)⟩
          | exact ⟨rfl, _, rfl, h0 (fun q => zoT q.2.2 c23)⟩
          | skip
end MOF

