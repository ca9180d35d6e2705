/-! ===== RunColumns: the small methods ===== -/
theorem i_lt {a b : Nat} (ha : a < 2 ^ 31) (hb : b < 2 ^ 31) (h : nI a < nI b) : a < b := (nI_ltI ha hb).mp h
theorem i_nlt {a b : Nat} (hb : b < 2 ^ 31) (h : ¬ nI a < nI b) : b ≤ a := by
  rcases Nat.lt_or_ge a b with q | q
  · exact absurd (nI_lt q hb) h
  · exact q
theorem i_le {a b : Nat} (ha : a < 2 ^ 31) (hb : b < 2 ^ 31) (h : nI a ≤ nI b) : a ≤ b := (nI_leI ha hb).mp h
theorem i_nle {a b : Nat} (hb : b < 2 ^ 31) (h : ¬ nI a ≤ nI b) : b < a := by
  rcases Nat.lt_or_ge b a with q | q
  · exact q
  · exact absurd (nI_le q hb) h
theorem rState.rows {S S' : zSt} {s n : Nat} {A : Ab} {ga ga' : Nat → Int32} {v : Nat → Nat → Nat} (h : rState S s A ga) (hf : frS S (inRows (s + 1)) S') (hr : rRows S' (s + 1) n v) (hb : aS A ≤ 6 ∧ aP A ≤ 10 ∧ aB A ≤ 8) (hg : ∀ k, 493 ≤ k → k < 505 ∨ (506 ≤ k ∧ k < 526) ∨ 527 ≤ k → ga' k = ga k) : rState S' s ((n, aM A, aS A, aP A, aB A), v, aT A) ga' := by
  obtain ⟨h1, h2, h3, h4, h5, h6⟩ := h
  have f1 : ∀ b, b = s ∨ s + 83 ≤ b → ¬ inRows (s + 1) b := fun b hb => by unfold inRows; omega
  refine ⟨hr, (congrFun (hf s (f1 _ (by omega))).1 2).trans h2, fun i hi => (congrFun (hf _ (f1 _ (by omega))).2.2.1 i).trans (h3 i hi), (h4.fr hf ⟨f1 _ (by omega), f1 _ (by omega), f1 _ (by omega)⟩).ga (fun k k1 k2 => hg k (by omega) (by omega)), (h5.fr hf ⟨f1 _ (by omega), f1 _ (by omega), f1 _ (by omega)⟩).ga (fun k k1 k2 => hg k (by omega) (by omega)), (h6.fr hf ⟨f1 _ (by omega), f1 _ (by omega), f1 _ (by omega)⟩).ga (fun k k1 k2 => hg k (by omega) (by omega))⟩
theorem rState.marks {S S' : zSt} {s M : Nat} {A : Ab} {ga ga' : Nat → Int32} {T : Nat → Nat} (h : rState S s A ga) (hf : frS S (fun b => b = s + 83) S') (hm : ∀ i, i < M → za S' (s + 83) i = nI (T i)) (hb : aS A ≤ 6 ∧ aP A ≤ 10 ∧ aB A ≤ 8) (hg : ∀ k, 493 ≤ k → k < 505 ∨ (506 ≤ k ∧ k < 526) ∨ 527 ≤ k → ga' k = ga k) : rState (zsi S' s 2 (nI M)) s ((aN A, M, aS A, aP A, aB A), aV A, T) ga' := by
  have hf2 : frS S (fun b => b = s ∨ b = s + 83) (zsi S' s 2 (nI M)) := (hf.weaken (fun b hb => Or.inr hb)).trans (frS.seti (Or.inl rfl))
  obtain ⟨h1, h2, h3, h4, h5, h6⟩ := h
  have f1 : ∀ b, s < b → b ≠ s + 83 → ¬ (b = s ∨ b = s + 83) := fun b hb => by omega
  refine ⟨h1.fr hf2 (fun b b1 b2 => f1 _ (by omega) (by omega)), zi_si, hm, (h4.fr hf2 ⟨f1 _ (by omega) (by omega), f1 _ (by omega) (by omega), f1 _ (by omega) (by omega)⟩).ga (fun k k1 k2 => hg k (by omega) (by omega)), (h5.fr hf2 ⟨f1 _ (by omega) (by omega), f1 _ (by omega) (by omega), f1 _ (by omega) (by omega)⟩).ga (fun k k1 k2 => hg k (by omega) (by omega)), (h6.fr hf2 ⟨f1 _ (by omega) (by omega), f1 _ (by omega) (by omega), f1 _ (by omega) (by omega)⟩).ga (fun k k1 k2 => hg k (by omega) (by omega))⟩
section RCA
variable {G : zG} {sh : Nat → Option zSh} {S : zSt} {x : Nat} {w : Wd} {P : Option Value → zSt → Prop}
theorem C_RC_isValue {y : Int32} : zD G m_RC_isValue 1 sh [.int y] S (some (.int (zo (rg y 16)))) S := by
  unfold rg
  refine s_methD 0 ⟨p_RC, rfl, Nat.le_of_ble_eq_true rfl⟩ rfl (fun sz => ?_)
  refine z_iload_n dX9_isValue_0 rfl ?_
  refine z_if_lt 14 dX9_isValue_1 (by decide) (fun c1 => ?_) (fun c1 => ?_)
  · rw [decide_eq_false (show ¬ (0 ≤ y ∧ y < nI 16) from fun q => Int32.not_lt.mpr q.1 c1)]
    refine z_iconst 0 dX9_isValue_14 rfl ?_
    refine z_ireturn dX9_isValue_15 rfl rfl ⟨Nat.le_refl _, Nat.le_refl _⟩ ?_
    exact ⟨rfl, rfl, rfl⟩
  · refine z_iload_n dX9_isValue_4 rfl ?_
    refine z_bipush 16 dX9_isValue_5 (by decide) ?_
    refine z_icmp_ge 14 dX9_isValue_7 (by decide) (fun c7 => ?_) (fun c7 => ?_)
    · rw [decide_eq_false (show ¬ (0 ≤ y ∧ y < nI 16) from fun q => Int32.not_lt.mpr c7 q.2)]
      refine z_iconst 0 dX9_isValue_14 rfl ?_
      refine z_ireturn dX9_isValue_15 rfl rfl ⟨Nat.le_refl _, Nat.le_refl _⟩ ?_
      exact ⟨rfl, rfl, rfl⟩
    · rw [decide_eq_true (show (0 ≤ y ∧ y < nI 16) from ⟨Int32.not_lt.mp c1, Int32.not_le.mp c7⟩)]
      refine z_iconst 1 dX9_isValue_10 rfl ?_
      refine z_goto 15 dX9_isValue_11 (by decide) ?_
      refine z_ireturn dX9_isValue_15 rfl rfl ⟨Nat.le_refl _, Nat.le_refl _⟩ ?_
      exact ⟨rfl, rfl, rfl⟩
theorem C_RC_isKind {y : Int32} : zD G m_RC_isKind 1 sh [.int y] S (some (.int (zo (rg y 20)))) S := by
  unfold rg
  refine s_methD 0 ⟨p_RC, rfl, Nat.le_of_ble_eq_true rfl⟩ rfl (fun sz => ?_)
  refine z_iload_n dX9_isKind_0 rfl ?_
  refine z_if_lt 14 dX9_isKind_1 (by decide) (fun c1 => ?_) (fun c1 => ?_)
  · rw [decide_eq_false (show ¬ (0 ≤ y ∧ y < nI 20) from fun q => Int32.not_lt.mpr q.1 c1)]
    refine z_iconst 0 dX9_isKind_14 rfl ?_
    refine z_ireturn dX9_isKind_15 rfl rfl ⟨Nat.le_refl _, Nat.le_refl _⟩ ?_
    exact ⟨rfl, rfl, rfl⟩
  · refine z_iload_n dX9_isKind_4 rfl ?_
    refine z_bipush 20 dX9_isKind_5 (by decide) ?_
    refine z_icmp_ge 14 dX9_isKind_7 (by decide) (fun c7 => ?_) (fun c7 => ?_)
    · rw [decide_eq_false (show ¬ (0 ≤ y ∧ y < nI 20) from fun q => Int32.not_lt.mpr c7 q.2)]
      refine z_iconst 0 dX9_isKind_14 rfl ?_
      refine z_ireturn dX9_isKind_15 rfl rfl ⟨Nat.le_refl _, Nat.le_refl _⟩ ?_
      exact ⟨rfl, rfl, rfl⟩
    · rw [decide_eq_true (show (0 ≤ y ∧ y < nI 20) from ⟨Int32.not_lt.mp c1, Int32.not_le.mp c7⟩)]
      refine z_iconst 1 dX9_isKind_10 rfl ?_
      refine z_goto 15 dX9_isKind_11 (by decide) ?_
      refine z_ireturn dX9_isKind_15 rfl rfl ⟨Nat.le_refl _, Nat.le_refl _⟩ ?_
      exact ⟨rfl, rfl, rfl⟩
theorem C_RC_isColumn {y : Int32} : zD G m_RC_isColumn 1 sh [.int y] S (some (.int (zo (rg y 4)))) S := by
  unfold rg
  refine s_methD 0 ⟨p_RC, rfl, Nat.le_of_ble_eq_true rfl⟩ rfl (fun sz => ?_)
  refine z_iload_n dX9_isColumn_0 rfl ?_
  refine z_if_lt 13 dX9_isColumn_1 (by decide) (fun c1 => ?_) (fun c1 => ?_)
  · rw [decide_eq_false (show ¬ (0 ≤ y ∧ y < nI 4) from fun q => Int32.not_lt.mpr q.1 c1)]
    refine z_iconst 0 dX9_isColumn_13 rfl ?_
    refine z_ireturn dX9_isColumn_14 rfl rfl ⟨Nat.le_refl _, Nat.le_refl _⟩ ?_
    exact ⟨rfl, rfl, rfl⟩
  · refine z_iload_n dX9_isColumn_4 rfl ?_
    refine z_iconst 4 dX9_isColumn_5 rfl ?_
    refine z_icmp_ge 13 dX9_isColumn_6 (by decide) (fun c6 => ?_) (fun c6 => ?_)
    · rw [decide_eq_false (show ¬ (0 ≤ y ∧ y < nI 4) from fun q => Int32.not_lt.mpr c6 q.2)]
      refine z_iconst 0 dX9_isColumn_13 rfl ?_
      refine z_ireturn dX9_isColumn_14 rfl rfl ⟨Nat.le_refl _, Nat.le_refl _⟩ ?_
      exact ⟨rfl, rfl, rfl⟩
    · rw [decide_eq_true (show (0 ≤ y ∧ y < nI 4) from ⟨Int32.not_lt.mp c1, Int32.not_le.mp c6⟩)]
      refine z_iconst 1 dX9_isColumn_9 rfl ?_
      refine z_goto 14 dX9_isColumn_10 (by decide) ?_
      refine z_ireturn dX9_isColumn_14 rfl rfl ⟨Nat.le_refl _, Nat.le_refl _⟩ ?_
      exact ⟨rfl, rfl, rfl⟩
theorem C_RC_isTape {y : Int32} : zD G m_RC_isTape 1 sh [.int y] S (some (.int (zo (rg y 6)))) S := by
  unfold rg
  refine s_methD 0 ⟨p_RC, rfl, Nat.le_of_ble_eq_true rfl⟩ rfl (fun sz => ?_)
  refine z_iload_n dX9_isTape_0 rfl ?_
  refine z_if_lt 14 dX9_isTape_1 (by decide) (fun c1 => ?_) (fun c1 => ?_)
  · rw [decide_eq_false (show ¬ (0 ≤ y ∧ y < nI 6) from fun q => Int32.not_lt.mpr q.1 c1)]
    refine z_iconst 0 dX9_isTape_14 rfl ?_
    refine z_ireturn dX9_isTape_15 rfl rfl ⟨Nat.le_refl _, Nat.le_refl _⟩ ?_
    exact ⟨rfl, rfl, rfl⟩
  · refine z_iload_n dX9_isTape_4 rfl ?_
    refine z_bipush 6 dX9_isTape_5 (by decide) ?_
    refine z_icmp_ge 14 dX9_isTape_7 (by decide) (fun c7 => ?_) (fun c7 => ?_)
    · rw [decide_eq_false (show ¬ (0 ≤ y ∧ y < nI 6) from fun q => Int32.not_lt.mpr c7 q.2)]
      refine z_iconst 0 dX9_isTape_14 rfl ?_
      refine z_ireturn dX9_isTape_15 rfl rfl ⟨Nat.le_refl _, Nat.le_refl _⟩ ?_
      exact ⟨rfl, rfl, rfl⟩
    · rw [decide_eq_true (show (0 ≤ y ∧ y < nI 6) from ⟨Int32.not_lt.mp c1, Int32.not_le.mp c7⟩)]
      refine z_iconst 1 dX9_isTape_10 rfl ?_
      refine z_goto 15 dX9_isTape_11 (by decide) ?_
      refine z_ireturn dX9_isTape_15 rfl rfl ⟨Nat.le_refl _, Nat.le_refl _⟩ ?_
      exact ⟨rfl, rfl, rfl⟩
theorem rg2 {y : Int32} : rg y 2 = decide (y = 0 ∨ y = 1) := by
  unfold rg
  refine decide_eq_decide.mpr ⟨fun h => ?_, fun h => ?_⟩
  · obtain ⟨j, hj, rfl⟩ := rg_t (n := 2) (by decide) (decide_eq_true h)
    rcases (by omega : j = 0 ∨ j = 1) with rfl | rfl
    · exact Or.inl rfl
    · exact Or.inr rfl
  · rcases h with rfl | rfl <;> decide
theorem C_RC_isPart {y : Int32} : zD G m_RC_isPart 1 sh [.int y] S (some (.int (zo (rg y 2)))) S := by
  rw [rg2]
  refine s_methD 0 ⟨p_RC, rfl, Nat.le_of_ble_eq_true rfl⟩ rfl (fun sz => ?_)
  refine z_iload_n dX9_isPart_0 rfl ?_
  refine z_if_eq 9 dX9_isPart_1 (by decide) (fun c1 => ?_) (fun c1 => ?_)
  · rw [decide_eq_true (show (y = 0 ∨ y = 1) from Or.inl c1)]
    refine z_iconst 1 dX9_isPart_9 rfl ?_
    refine z_goto 14 dX9_isPart_10 (by decide) ?_
    refine z_ireturn dX9_isPart_14 rfl rfl ⟨Nat.le_refl _, Nat.le_refl _⟩ ?_
    exact ⟨rfl, rfl, rfl⟩
  · refine z_iload_n dX9_isPart_4 rfl ?_
    refine z_iconst 1 dX9_isPart_5 rfl ?_
    refine z_icmp_ne 13 dX9_isPart_6 (by decide) (fun c6 => ?_) (fun c6 => ?_)
    · rw [decide_eq_false (show ¬ (y = 0 ∨ y = 1) from fun q => q.elim c1 c6)]
      refine z_iconst 0 dX9_isPart_13 rfl ?_
      refine z_ireturn dX9_isPart_14 rfl rfl ⟨Nat.le_refl _, Nat.le_refl _⟩ ?_
      exact ⟨rfl, rfl, rfl⟩
    · rw [decide_eq_true (show (y = 0 ∨ y = 1) from Or.inr c6)]
      refine z_iconst 1 dX9_isPart_9 rfl ?_
      refine z_goto 14 dX9_isPart_10 (by decide) ?_
      refine z_ireturn dX9_isPart_14 rfl rfl ⟨Nat.le_refl _, Nat.le_refl _⟩ ?_
      exact ⟨rfl, rfl, rfl⟩
theorem C_RC_isQuery {y : Int32} (hT : tRC sh x) (hR : rRC S x w) : zD G m_RC_isQuery 1 sh [.ref x, .int y] S (some (.int (zo (rg y (wq w))))) S := by
  have t0 := hT.1
  have hq : zi S x 5 = nI (wq w) := hR.2.2.2.2.1.2.1
  unfold rg
  refine s_methD 0 ⟨p_RC, rfl, Nat.le_of_ble_eq_true rfl⟩ rfl (fun sz => ?_)
  refine z_iload_n dX9_isQuery_0 rfl ?_
  refine z_if_lt 16 dX9_isQuery_1 (by decide) (fun c1 => ?_) (fun c1 => ?_)
  · rw [decide_eq_false (show ¬ (0 ≤ y ∧ y < nI (wq w)) from fun q => Int32.not_lt.mpr q.1 c1)]
    refine z_iconst 0 dX9_isQuery_16 rfl ?_
    refine z_ireturn dX9_isQuery_17 rfl rfl ⟨Nat.le_refl _, Nat.le_refl _⟩ ?_
    exact ⟨rfl, rfl, rfl⟩
  · refine z_iload_n dX9_isQuery_4 rfl ?_
    refine z_aload_n dX9_isQuery_5 rfl ?_
    refine s_geti f_RC_38 dX9_isQuery_6 (by assumption) rfl ?_
    refine z_icmp_ge 16 dX9_isQuery_9 (by decide) (fun c9 => ?_) (fun c9 => ?_)
    · rw [hq] at c9
      rw [decide_eq_false (show ¬ (0 ≤ y ∧ y < nI (wq w)) from fun q => Int32.not_lt.mpr c9 q.2)]
      refine z_iconst 0 dX9_isQuery_16 rfl ?_
      refine z_ireturn dX9_isQuery_17 rfl rfl ⟨Nat.le_refl _, Nat.le_refl _⟩ ?_
      exact ⟨rfl, rfl, rfl⟩
    · rw [hq] at c9
      rw [decide_eq_true (show (0 ≤ y ∧ y < nI (wq w)) from ⟨Int32.not_lt.mp c1, Int32.not_le.mp c9⟩)]
      refine z_iconst 1 dX9_isQuery_12 rfl ?_
      refine z_goto 17 dX9_isQuery_13 (by decide) ?_
      refine z_ireturn dX9_isQuery_17 rfl rfl ⟨Nat.le_refl _, Nat.le_refl _⟩ ?_
      exact ⟨rfl, rfl, rfl⟩
theorem C_RC_add {a b c d : Int32} (hT : tRC sh x) (hR : rRC S x w) (hW : wOK w) (h0 : ¬ (rg a 16 = true ∧ rg b 16 = true ∧ rg c 16 = true ∧ rg d 16 = true) → P (some (.int (-2))) S)
    (h1 : (rg a 16 = true ∧ rg b 16 = true ∧ rg c 16 = true ∧ rg d 16 = true) → 120 ≤ aN (wA w) → P (some (.int (-4))) S)
    (h2 : ∀ y S', (∀ i, i < 4 → y i < 16) → a = nI (y 0) → b = nI (y 1) → c = nI (y 2) → d = nI (y 3) → aN (wA w) < 120 → frS S (inX x) S' → rRC S' x ((aAdd (wA w) y, gAdd (wA w) (wg w) y), w.2) → P (some (.int (nI (aN (wA w))))) S') : zR G m_RC_add 4 sh [.ref x, .int a, .int b, .int c, .int d] S P := by
  obtain ⟨t0, t1, t2, t3, ⟨t4, t4q⟩, ⟨t5, t5t⟩, t6, t7, t8, t9, t10⟩ := id hT
  obtain ⟨u0, u1, u2, u3, u4, u5⟩ := id t1
  have u1a := u1.1
  obtain ⟨r0, rc, rh, rh2, ⟨rq8, rq0, rq⟩, ⟨rL, rtx⟩, rt⟩ := id hR
  obtain ⟨v0, v1, v2, v3, v4, v5⟩ := id r0
  have z0 : zi S (x + 1 + 1) 1 = nI (aN (wA w)) := v0.1
  obtain ⟨g0, gi, ⟨g2, g2q⟩, ⟨g3, g3x⟩, g4⟩ := id hW
  obtain ⟨⟨b1, b2, b3, b4, b5⟩, ⟨e1, e2, e3, e4, e5⟩, eV, eM, eMo, eS, eB⟩ := id g0
  have hv : ∀ j, j < aN (wA w) → ∀ c, c < 4 → aV (wA w) j c < 16 := fun j hj c hc => (eV j hj c hc).2
  refine s_meth 0 ⟨p_RC, rfl, Nat.le_of_ble_eq_true rfl⟩ rfl (fun sz => ?_)
  refine z_iload_n dX9_add_0 rfl ?_
  refine s_callS1 l_RC_81 (C_RC_isValue) dX9_add_1 rfl rfl (Nat.le_of_ble_eq_true rfl) ⟨⟨by decide, by decide⟩, by decide, by decide⟩ ?_
  refine z_if_eq 29 dX9_add_4 (by decide) (fun c4 => ?_) (fun c4 => ?_)
  · refine z_bipush (-2) dX9_add_29 (by decide) ?_
    refine z_ireturn dX9_add_31 rfl rfl ⟨Nat.le_refl _, Nat.le_refl _⟩ ?_
    first
      | exact ⟨rfl, _, rfl, h0 (fun q => zoT q.1 c4)⟩
      | exact ⟨rfl, _, rfl, h0 (fun q => zoT q.2.1 c11)⟩
      | exact ⟨rfl, _, rfl, h0 (fun q => zoT q.2.2.1 c18)⟩
      | exact ⟨rfl, _, rfl, h0 (fun q => zoT q.2.2.2 c26)⟩
      | skip
  · refine z_iload_n dX9_add_7 rfl ?_
    refine s_callS1 l_RC_81 (C_RC_isValue) dX9_add_8 rfl rfl (Nat.le_of_ble_eq_true rfl) ⟨⟨by decide, by decide⟩, by decide, by decide⟩ ?_
    refine z_if_eq 29 dX9_add_11 (by decide) (fun c11 => ?_) (fun c11 => ?_)
    · refine z_bipush (-2) dX9_add_29 (by decide) ?_
      refine z_ireturn dX9_add_31 rfl rfl ⟨Nat.le_refl _, Nat.le_refl _⟩ ?_
      first
        | exact ⟨rfl, _, rfl, h0 (fun q => zoT q.1 c4)⟩
        | exact ⟨rfl, _, rfl, h0 (fun q => zoT q.2.1 c11)⟩
        | exact ⟨rfl, _, rfl, h0 (fun q => zoT q.2.2.1 c18)⟩
        | exact ⟨rfl, _, rfl, h0 (fun q => zoT q.2.2.2 c26)⟩
        | skip
    · refine z_iload_n dX9_add_14 rfl ?_
      refine s_callS1 l_RC_81 (C_RC_isValue) dX9_add_15 rfl rfl (Nat.le_of_ble_eq_true rfl) ⟨⟨by decide, by decide⟩, by decide, by decide⟩ ?_
      refine z_if_eq 29 dX9_add_18 (by decide) (fun c18 => ?_) (fun c18 => ?_)
      · refine z_bipush (-2) dX9_add_29 (by decide) ?_
        refine z_ireturn dX9_add_31 rfl rfl ⟨Nat.le_refl _, Nat.le_refl _⟩ ?_
        first
          | exact ⟨rfl, _, rfl, h0 (fun q => zoT q.1 c4)⟩
          | exact ⟨rfl, _, rfl, h0 (fun q => zoT q.2.1 c11)⟩
          | exact ⟨rfl, _, rfl, h0 (fun q => zoT q.2.2.1 c18)⟩
          | exact ⟨rfl, _, rfl, h0 (fun q => zoT q.2.2.2 c26)⟩
          | skip
      · refine z_iload dX9_add_21 rfl ?_
        refine s_callS1 l_RC_81 (C_RC_isValue) dX9_add_23 rfl rfl (Nat.le_of_ble_eq_true rfl) ⟨⟨by decide, by decide⟩, by decide, by decide⟩ ?_
        refine z_if_ne 32 dX9_add_26 (by decide) (fun c26 => ?_) (fun c26 => ?_)
        · refine z_aload_n dX9_add_32 rfl ?_
          refine s_getr f_RC_14 dX9_add_33 (by assumption) rfl ?_
          refine s_getr f_RC_85 dX9_add_36 (by assumption) rfl ?_
          refine s_callV1 l_RC_88 (C_Rows_isFull u1 z0 (by omega)) u1a dX9_add_39 rfl rfl (Nat.le_of_ble_eq_true rfl) ⟨⟨by decide, by decide⟩, by decide, by decide⟩ ?_
          refine z_if_eq 48 dX9_add_42 (by decide) (fun c42 => ?_) (fun c42 => ?_)
          · have hn := of_decide_eq_false (zo_eq0.mp c42)
            obtain ⟨ja, ha, rfl⟩ := rg_t (by decide) (zo_ne0.mp c4)
            obtain ⟨jb, hb, rfl⟩ := rg_t (by decide) (zo_ne0.mp c11)
            obtain ⟨jc, hc, rfl⟩ := rg_t (by decide) (zo_ne0.mp c18)
            obtain ⟨jd, hd, rfl⟩ := rg_t (by decide) (zo_ne0.mp c26)
            refine z_aload_n dX9_add_48 rfl ?_
            refine s_getr f_RC_14 dX9_add_49 (by assumption) rfl ?_
            refine s_getr f_RC_85 dX9_add_52 (by assumption) rfl ?_
            refine z_iload_n dX9_add_55 rfl ?_
            refine z_iload_n dX9_add_56 rfl ?_
            refine z_iload_n dX9_add_57 rfl ?_
            refine z_iload dX9_add_58 rfl ?_
            refine n_callV0 l_RC_92 (C_Rows_append (w := y4 ja jb jc jd) u1 v0 (by omega) (y4_lt ha hb hc hd)) u1a dX9_add_60 rfl rfl (Nat.le_of_ble_eq_true rfl) ⟨⟨by decide, by decide⟩, by decide, by decide⟩ (fun S60 q60 => ?_)
            refine z_aload_n dX9_add_63 rfl ?_
            refine s_getr f_RC_14 dX9_add_64 (by assumption) rfl ?_
            refine s_getr f_RC_85 dX9_add_67 (by assumption) rfl ?_
            refine s_geti f_RC_96 dX9_add_70 (by assumption) rfl ?_
            rw [show zi S60 (x + 1 + 1) 1 = nI (aN (wA w) + 1) from q60.2.1]
            refine z_iconst 1 dX9_add_73 rfl ?_
            refine z_isub dX9_add_74 ?_
            rw [nI_pred]
            refine z_ireturn dX9_add_75 rfl rfl ⟨Nat.le_refl _, Nat.le_refl _⟩ ?_
            refine ⟨rfl, _, rfl, h2 (y4 ja jb jc jd) S60 (y4_lt ha hb hc hd) rfl rfl rfl rfl (by omega) (q60.1.weaken (fun b hb => by unfold inRows at hb; unfold inX; omega)) (hR.fr0 q60.1 (fun b h1 h2 h3 => by unfold inRows; omega) (r0.rows q60.1 q60.2 ⟨b3, b4, b5⟩ (fun k k1 k2 => gAdd_o (by omega) (by omega))))⟩
          · refine z_bipush (-4) dX9_add_45 (by decide) ?_
            refine z_ireturn dX9_add_47 rfl rfl ⟨Nat.le_refl _, Nat.le_refl _⟩ ?_
            exact ⟨rfl, _, rfl, h1 ⟨zo_ne0.mp c4, zo_ne0.mp c11, zo_ne0.mp c18, zo_ne0.mp c26⟩ (of_decide_eq_true (zo_ne0.mp c42))⟩
        · refine z_bipush (-2) dX9_add_29 (by decide) ?_
          refine z_ireturn dX9_add_31 rfl rfl ⟨Nat.le_refl _, Nat.le_refl _⟩ ?_
          first
            | exact ⟨rfl, _, rfl, h0 (fun q => zoT q.1 c4)⟩
            | exact ⟨rfl, _, rfl, h0 (fun q => zoT q.2.1 c11)⟩
            | exact ⟨rfl, _, rfl, h0 (fun q => zoT q.2.2.1 c18)⟩
            | exact ⟨rfl, _, rfl, h0 (fun q => zoT q.2.2.2 c26)⟩
            | skip
theorem C_RC_at {a b : Int32} (hT : tRC sh x) (hR : rRC S x w) (hW : wOK w) (h0 : ¬ (rg a (aN (wA w)) = true ∧ rg b 4 = true) → P (some (.int (-1))) S)
    (h1 : ∀ j c, j < aN (wA w) → c < 4 → a = nI j → b = nI c → P (some (.int (nI (aV (wA w) j c)))) S) : zR G m_RC_at 3 sh [.ref x, .int a, .int b] S P := by
  obtain ⟨t0, t1, t2, t3, ⟨t4, t4q⟩, ⟨t5, t5t⟩, t6, t7, t8, t9, t10⟩ := id hT
  obtain ⟨u0, u1, u2, u3, u4, u5⟩ := id t1
  have u1a := u1.1
  obtain ⟨r0, rc, rh, rh2, ⟨rq8, rq0, rq⟩, ⟨rL, rtx⟩, rt⟩ := id hR
  obtain ⟨v0, v1, v2, v3, v4, v5⟩ := id r0
  have z0 : zi S (x + 1 + 1) 1 = nI (aN (wA w)) := v0.1
  obtain ⟨g0, gi, ⟨g2, g2q⟩, ⟨g3, g3x⟩, g4⟩ := id hW
  obtain ⟨⟨b1, b2, b3, b4, b5⟩, ⟨e1, e2, e3, e4, e5⟩, eV, eM, eMo, eS, eB⟩ := id g0
  have hv : ∀ j, j < aN (wA w) → ∀ c, c < 4 → aV (wA w) j c < 16 := fun j hj c hc => (eV j hj c hc).2
  refine s_meth 0 ⟨p_RC, rfl, Nat.le_of_ble_eq_true rfl⟩ rfl (fun sz => ?_)
  refine z_aload_n dX9_at_0 rfl ?_
  refine s_getr f_RC_14 dX9_at_1 (by assumption) rfl ?_
  refine s_getr f_RC_85 dX9_at_4 (by assumption) rfl ?_
  refine z_iload_n dX9_at_7 rfl ?_
  refine s_callV1 l_RC_99 (C_Rows_hasRow u1 z0 (by omega)) u1a dX9_at_8 rfl rfl (Nat.le_of_ble_eq_true rfl) ⟨⟨by decide, by decide⟩, by decide, by decide⟩ ?_
  refine z_if_eq 21 dX9_at_11 (by decide) (fun c11 => ?_) (fun c11 => ?_)
  · refine z_iconst (-1) dX9_at_21 rfl ?_
    refine z_ireturn dX9_at_22 rfl rfl ⟨Nat.le_refl _, Nat.le_refl _⟩ ?_
    first
      | exact ⟨rfl, _, rfl, h0 (fun q => zoT q.1 c11)⟩
      | exact ⟨rfl, _, rfl, h0 (fun q => zoT q.2 c18)⟩
      | skip
  · refine z_iload_n dX9_at_14 rfl ?_
    refine s_callS1 l_RC_102 (C_RC_isColumn) dX9_at_15 rfl rfl (Nat.le_of_ble_eq_true rfl) ⟨⟨by decide, by decide⟩, by decide, by decide⟩ ?_
    refine z_if_ne 23 dX9_at_18 (by decide) (fun c18 => ?_) (fun c18 => ?_)
    · obtain ⟨j, hj, rfl⟩ := rg_t (by omega) (zo_ne0.mp c11)
      obtain ⟨c, hc, rfl⟩ := rg_t (by decide) (zo_ne0.mp c18)
      refine z_aload_n dX9_at_23 rfl ?_
      refine s_getr f_RC_14 dX9_at_24 (by assumption) rfl ?_
      refine s_getr f_RC_85 dX9_at_27 (by assumption) rfl ?_
      refine z_iload_n dX9_at_30 rfl ?_
      refine z_iload_n dX9_at_31 rfl ?_
      refine s_callV1 l_RC_105 (C_Rows_valueOf u1 v0 b1 hj hc (hv j hj c hc)) u1a dX9_at_32 rfl rfl (Nat.le_of_ble_eq_true rfl) ⟨⟨by decide, by decide⟩, by decide, by decide⟩ ?_
      refine z_ireturn dX9_at_35 rfl rfl ⟨Nat.le_refl _, Nat.le_refl _⟩ ?_
      exact ⟨rfl, _, rfl, h1 j c hj hc rfl rfl⟩
    · refine z_iconst (-1) dX9_at_21 rfl ?_
      refine z_ireturn dX9_at_22 rfl rfl ⟨Nat.le_refl _, Nat.le_refl _⟩ ?_
      first
        | exact ⟨rfl, _, rfl, h0 (fun q => zoT q.1 c11)⟩
        | exact ⟨rfl, _, rfl, h0 (fun q => zoT q.2 c18)⟩
        | skip
theorem C_RC_mark (hT : tRC sh x) (hR : rRC S x w) (hW : wOK w) (h0 : 10 ≤ aM (wA w) → P (some (.int (-4))) S)
    (h1 : ∀ S', aM (wA w) < 10 → frS S (inX x) S' → rRC S' x ((aMark (wA w), gMark (wA w) (wg w)), w.2) → P (some (.int (nI (aM (wA w))))) S') : zR G m_RC_mark 1 sh [.ref x] S P := by
  obtain ⟨t0, t1, t2, t3, ⟨t4, t4q⟩, ⟨t5, t5t⟩, t6, t7, t8, t9, t10⟩ := id hT
  obtain ⟨u0, u1, u2, u3, u4, u5⟩ := id t1
  have u1a := u1.1
  obtain ⟨r0, rc, rh, rh2, ⟨rq8, rq0, rq⟩, ⟨rL, rtx⟩, rt⟩ := id hR
  obtain ⟨v0, v1, v2, v3, v4, v5⟩ := id r0
  have z0 : zi S (x + 1 + 1) 1 = nI (aN (wA w)) := v0.1
  obtain ⟨g0, gi, ⟨g2, g2q⟩, ⟨g3, g3x⟩, g4⟩ := id hW
  obtain ⟨⟨b1, b2, b3, b4, b5⟩, ⟨e1, e2, e3, e4, e5⟩, eV, eM, eMo, eS, eB⟩ := id g0
  have hv : ∀ j, j < aN (wA w) → ∀ c, c < 4 → aV (wA w) j c < 16 := fun j hj c hc => (eV j hj c hc).2
  refine s_meth 0 ⟨p_RC, rfl, Nat.le_of_ble_eq_true rfl⟩ rfl (fun sz => ?_)
  refine z_aload_n dX9_mark_0 rfl ?_
  refine s_getr f_RC_14 dX9_mark_1 (by assumption) rfl ?_
  refine s_geti f_RC_109 dX9_mark_4 (by assumption) rfl ?_
  refine z_bipush 10 dX9_mark_7 (by decide) ?_
  refine z_icmp_lt 15 dX9_mark_9 (by decide) (fun c9 => ?_) (fun c9 => ?_)
  · rw [v1] at c9
    have hM := i_lt (b := 10) (by omega) (by decide) c9
    refine z_aload_n dX9_mark_15 rfl ?_
    refine s_getr f_RC_14 dX9_mark_16 (by assumption) rfl ?_
    refine s_getr f_RC_112 dX9_mark_19 (by assumption) rfl ?_
    refine z_aload_n dX9_mark_22 rfl ?_
    refine s_getr f_RC_14 dX9_mark_23 (by assumption) rfl ?_
    refine s_geti f_RC_109 dX9_mark_26 (by assumption) rfl ?_
    refine z_aload_n dX9_mark_29 rfl ?_
    refine s_getr f_RC_14 dX9_mark_30 (by assumption) rfl ?_
    refine s_getr f_RC_85 dX9_mark_33 (by assumption) rfl ?_
    refine s_geti f_RC_96 dX9_mark_36 (by assumption) rfl ?_
    rw [v1, z0]
    refine s_iast dX9_mark_39 u2 (vp_in_nI hM (by decide)) ?_
    rw [nI_clamp (by omega)]
    refine z_aload_n dX9_mark_40 rfl ?_
    refine s_getr f_RC_14 dX9_mark_41 (by assumption) rfl ?_
    refine z_dup dX9_mark_44 rfl ?_
    refine s_geti f_RC_109 dX9_mark_45 (by assumption) rfl ?_
    refine z_iconst 1 dX9_mark_48 rfl ?_
    refine z_iadd dX9_mark_49 ?_
    rw [v1, nI_1]
    refine s_puti f_RC_109 dX9_mark_50 (by assumption) rfl ⟨rfl, rfl⟩ ?_
    refine z_aload_n dX9_mark_53 rfl ?_
    refine s_getr f_RC_14 dX9_mark_54 (by assumption) rfl ?_
    refine s_geti f_RC_109 dX9_mark_57 (by assumption) rfl ?_
    rw [zi_si]
    refine z_iconst 1 dX9_mark_60 rfl ?_
    refine z_isub dX9_mark_61 ?_
    rw [nI_pred]
    refine z_ireturn dX9_mark_62 rfl rfl ⟨Nat.le_refl _, Nat.le_refl _⟩ ?_
    have f1 : frS S (fun b => b = x + 1 + 83) (zsa S (x + 1 + 83) (aM (wA w)) (nI (aN (wA w)))) := frS.seta rfl
    have f2 : frS S (fun b => b = x + 1 ∨ b = x + 1 + 83) (zsi (zsa S (x + 1 + 83) (aM (wA w)) (nI (aN (wA w)))) (x + 1) 2 (nI (aM (wA w) + 1))) := (f1.weaken (fun b hb => Or.inr hb)).trans (frS.seti (Or.inl rfl))
    refine ⟨rfl, _, rfl, h1 _ hM (f2.weaken (fun b hb => by unfold inX; omega)) (hR.fr0 f2 (fun b h1 h2 h3 => by omega) (r0.marks f1 (fun i hi => ?_) ⟨b3, b4, b5⟩ (fun k k1 k2 => ?_)))⟩
    · by_cases e : i = aM (wA w)
      · subst e; rw [if_pos rfl]; exact za_sa
      · rw [if_neg e]; exact (za_san (by omega)).trans (v2 i (by omega))
    · unfold gMark; rw [gset_n (by omega), gset_n (by omega)]
  · rw [v1] at c9
    have hM := i_nlt (b := 10) (by decide) c9
    refine z_bipush (-4) dX9_mark_12 (by decide) ?_
    refine z_ireturn dX9_mark_14 rfl rfl ⟨Nat.le_refl _, Nat.le_refl _⟩ ?_
    exact ⟨rfl, _, rfl, h0 hM⟩
theorem C_RC_back {a : Int32} (hT : tRC sh x) (hR : rRC S x w) (hW : wOK w) (h0 : ¬ rg a (aM (wA w)) = true → P (some (.int (-1))) S)
    (h1 : ∀ k S', k < aM (wA w) → a = nI k → frS S (inX x) S' → rRC S' x ((aBack (wA w) k, gBack (wA w) (wg w) k), w.2) → P (some (.int (nI (aN (wA w) - aT (wA w) k)))) S') : zR G m_RC_back 4 sh [.ref x, .int a] S P := by
  obtain ⟨t0, t1, t2, t3, ⟨t4, t4q⟩, ⟨t5, t5t⟩, t6, t7, t8, t9, t10⟩ := id hT
  obtain ⟨u0, u1, u2, u3, u4, u5⟩ := id t1
  have u1a := u1.1
  obtain ⟨r0, rc, rh, rh2, ⟨rq8, rq0, rq⟩, ⟨rL, rtx⟩, rt⟩ := id hR
  obtain ⟨v0, v1, v2, v3, v4, v5⟩ := id r0
  have z0 : zi S (x + 1 + 1) 1 = nI (aN (wA w)) := v0.1
  obtain ⟨g0, gi, ⟨g2, g2q⟩, ⟨g3, g3x⟩, g4⟩ := id hW
  obtain ⟨⟨b1, b2, b3, b4, b5⟩, ⟨e1, e2, e3, e4, e5⟩, eV, eM, eMo, eS, eB⟩ := id g0
  have hv : ∀ j, j < aN (wA w) → ∀ c, c < 4 → aV (wA w) j c < 16 := fun j hj c hc => (eV j hj c hc).2
  refine s_meth 1 ⟨p_RC, rfl, Nat.le_of_ble_eq_true rfl⟩ rfl (fun sz => ?_)
  refine z_aload_n dX9_back_0 rfl ?_
  refine s_getr f_RC_14 dX9_back_1 (by assumption) rfl ?_
  refine z_iload_n dX9_back_4 rfl ?_
  refine s_callV1 l_RC_116 (C_State_hasMark t1 v1) u0 dX9_back_5 rfl rfl (Nat.le_of_ble_eq_true rfl) ⟨⟨by decide, by decide⟩, by decide, by decide⟩ ?_
  refine z_if_ne 13 dX9_back_8 (by decide) (fun c8 => ?_) (fun c8 => ?_)
  · obtain ⟨k, hk, rfl⟩ := rg_t (by omega) (zo_ne0.mp c8)
    have hm := (eM k hk).2
    refine z_aload_n dX9_back_13 rfl ?_
    refine s_getr f_RC_14 dX9_back_14 (by assumption) rfl ?_
    refine s_getr f_RC_85 dX9_back_17 (by assumption) rfl ?_
    refine s_geti f_RC_96 dX9_back_20 (by assumption) rfl ?_
    refine z_istore_n (lv' := [_, _, _]) dX9_back_23 (by decide) rfl ?_
    refine z_aload_n dX9_back_24 rfl ?_
    refine s_getr f_RC_14 dX9_back_25 (by assumption) rfl ?_
    refine s_getr f_RC_85 dX9_back_28 (by assumption) rfl ?_
    refine z_aload_n dX9_back_31 rfl ?_
    refine s_getr f_RC_14 dX9_back_32 (by assumption) rfl ?_
    refine s_getr f_RC_112 dX9_back_35 (by assumption) rfl ?_
    refine z_iload_n dX9_back_38 rfl ?_
    refine s_iald dX9_back_39 u2 (vp_in_nI (by omega) (by decide)) ?_
    rw [nI_clamp (by omega), v2 k hk]
    refine n_callV0 l_RC_119 (C_Rows_cutTo u1 v0 (by omega) (show aT (wA w) k ≤ 128 by omega)) u1a dX9_back_40 rfl rfl (Nat.le_of_ble_eq_true rfl) ⟨⟨by decide, by decide⟩, by decide, by decide⟩ (fun S40 q40 => ?_)
    refine z_aload_n dX9_back_43 rfl ?_
    refine s_getr f_RC_14 dX9_back_44 (by assumption) rfl ?_
    refine z_iload_n dX9_back_47 rfl ?_
    refine z_iconst 1 dX9_back_48 rfl ?_
    refine z_iadd dX9_back_49 ?_
    rw [nI_1]
    refine s_puti f_RC_109 dX9_back_50 (by assumption) rfl ⟨rfl, rfl⟩ ?_
    refine z_iload_n dX9_back_53 rfl ?_
    refine z_aload_n dX9_back_54 rfl ?_
    refine s_getr f_RC_14 dX9_back_55 (by assumption) rfl ?_
    refine s_getr f_RC_85 dX9_back_58 (by assumption) rfl ?_
    refine s_geti f_RC_96 dX9_back_61 (by assumption) rfl ?_
    rw [zi_sin (by omega), show zi S40 (x + 1 + 1) 1 = nI (min (aT (wA w) k) (aN (wA w))) from q40.2.1, z0, Nat.min_eq_left hm]
    refine z_isub dX9_back_64 ?_
    rw [pk_sub hm]
    refine z_ireturn dX9_back_65 rfl rfl ⟨Nat.le_refl _, Nat.le_refl _⟩ ?_
    have q2 := q40.2
    rw [Nat.min_eq_left hm] at q2
    have rs := r0.rows (ga' := wg w) q40.1 q2 ⟨b3, b4, b5⟩ (fun k k1 k2 => rfl)
    have f2 : frS S (fun b => x + 1 ≤ b ∧ b < x + 94) (zsi S40 (x + 1) 2 (nI (k + 1))) := (q40.1.weaken (fun b hb => by unfold inRows at hb; omega)).trans (frS.seti (by omega))
    refine ⟨rfl, _, rfl, h1 k _ hk rfl (f2.weaken (fun b hb => by unfold inX; omega)) (hR.fr0 f2 (fun b h1 h2 h3 => by omega) (rs.marks (T := aT (wA w)) (M := k + 1) frS.rf (fun i hi => ?_) ⟨b3, b4, b5⟩ (fun j k1 k2 => ?_)))⟩
    · exact rs.2.2.1 i (by show i < aM (wA w); omega)
    · unfold gBack; rw [gset_n (by omega), gset_n (by omega)]
  · refine z_iconst (-1) dX9_back_11 rfl ?_
    refine z_ireturn dX9_back_12 rfl rfl ⟨Nat.le_refl _, Nat.le_refl _⟩ ?_
    exact ⟨rfl, _, rfl, h0 (fun q => zoT q c8)⟩
theorem C_RC_runs {a b : Int32} (hT : tRC sh x) (hR : rRC S x w) (hW : wOK w) (h0 : ¬ (rg a 4 = true ∧ rg b 20 = true) → P (some (.int (-1))) S)
    (h1 : ∀ c k, c < 4 → k < 20 → a = nI c → b = nI k → P (some (.int (nI (runsN (kbits (aV (wA w)) c k) (aN (wA w)))))) S) : zR G m_RC_runs 3 sh [.ref x, .int a, .int b] S P := by
  obtain ⟨t0, t1, t2, t3, ⟨t4, t4q⟩, ⟨t5, t5t⟩, t6, t7, t8, t9, t10⟩ := id hT
  obtain ⟨u0, u1, u2, u3, u4, u5⟩ := id t1
  have u1a := u1.1
  obtain ⟨r0, rc, rh, rh2, ⟨rq8, rq0, rq⟩, ⟨rL, rtx⟩, rt⟩ := id hR
  obtain ⟨v0, v1, v2, v3, v4, v5⟩ := id r0
  have z0 : zi S (x + 1 + 1) 1 = nI (aN (wA w)) := v0.1
  obtain ⟨g0, gi, ⟨g2, g2q⟩, ⟨g3, g3x⟩, g4⟩ := id hW
  obtain ⟨⟨b1, b2, b3, b4, b5⟩, ⟨e1, e2, e3, e4, e5⟩, eV, eM, eMo, eS, eB⟩ := id g0
  have hv : ∀ j, j < aN (wA w) → ∀ c, c < 4 → aV (wA w) j c < 16 := fun j hj c hc => (eV j hj c hc).2
  refine s_meth 0 ⟨p_RC, rfl, Nat.le_of_ble_eq_true rfl⟩ rfl (fun sz => ?_)
  refine z_iload_n dX9_runs_0 rfl ?_
  refine s_callS1 l_RC_102 (C_RC_isColumn) dX9_runs_1 rfl rfl (Nat.le_of_ble_eq_true rfl) ⟨⟨by decide, by decide⟩, by decide, by decide⟩ ?_
  refine z_if_eq 14 dX9_runs_4 (by decide) (fun c4 => ?_) (fun c4 => ?_)
  · refine z_iconst (-1) dX9_runs_14 rfl ?_
    refine z_ireturn dX9_runs_15 rfl rfl ⟨Nat.le_refl _, Nat.le_refl _⟩ ?_
    first
      | exact ⟨rfl, _, rfl, h0 (fun q => zoT q.1 c4)⟩
      | exact ⟨rfl, _, rfl, h0 (fun q => zoT q.2 c11)⟩
      | skip
  · refine z_iload_n dX9_runs_7 rfl ?_
    refine s_callS1 l_RC_123 (C_RC_isKind) dX9_runs_8 rfl rfl (Nat.le_of_ble_eq_true rfl) ⟨⟨by decide, by decide⟩, by decide, by decide⟩ ?_
    refine z_if_ne 16 dX9_runs_11 (by decide) (fun c11 => ?_) (fun c11 => ?_)
    · obtain ⟨c, hc, rfl⟩ := rg_t (by decide) (zo_ne0.mp c4)
      obtain ⟨k, hk, rfl⟩ := rg_t (by decide) (zo_ne0.mp c11)
      refine z_aload_n dX9_runs_16 rfl ?_
      refine s_getr f_RC_14 dX9_runs_17 (by assumption) rfl ?_
      refine s_getr f_RC_85 dX9_runs_20 (by assumption) rfl ?_
      refine z_iload_n dX9_runs_23 rfl ?_
      refine z_iload_n dX9_runs_24 rfl ?_
      refine s_callV1 l_RC_126 (C_Rows_bitsOf u1 hc hk) u1a dX9_runs_25 rfl rfl (Nat.le_of_ble_eq_true rfl) ⟨⟨by decide, by decide⟩, by decide, by decide⟩ ?_
      refine z_aload_n dX9_runs_28 rfl ?_
      refine s_getr f_RC_14 dX9_runs_29 (by assumption) rfl ?_
      refine s_getr f_RC_85 dX9_runs_32 (by assumption) rfl ?_
      refine s_geti f_RC_96 dX9_runs_35 (by assumption) rfl ?_
      rw [z0]
      refine s_callV1 l_RC_130 (C_Bits_runsWithin (u1.2.2 _ (by omega)) (by omega)) (u1.2.2 _ (by omega)) dX9_runs_38 rfl rfl (Nat.le_of_ble_eq_true rfl) ⟨⟨by decide, by decide⟩, by decide, by decide⟩ ?_
      refine z_ireturn dX9_runs_41 rfl rfl ⟨Nat.le_refl _, Nat.le_refl _⟩ ?_
      rw [v0.runs (by omega) hc hk]
      exact ⟨rfl, _, rfl, h1 c k hc hk rfl rfl⟩
    · refine z_iconst (-1) dX9_runs_14 rfl ?_
      refine z_ireturn dX9_runs_15 rfl rfl ⟨Nat.le_refl _, Nat.le_refl _⟩ ?_
      first
        | exact ⟨rfl, _, rfl, h0 (fun q => zoT q.1 c4)⟩
        | exact ⟨rfl, _, rfl, h0 (fun q => zoT q.2 c11)⟩
        | skip
theorem rSt_cong {f g : Nat → Bool} {n : Nat} (h : ∀ j, j < n → f j = g j) : ∀ i, i < runsN f n → rSt f n i = rSt g n i
  | 0, _ => rfl
  | i + 1, hi => by
    have ih := rSt_cong h i (by omega)
    have hs := (rSt_spec (f := f) (n := n) i (by omega)).1
    show rEnd f (rSt f n i) n = rEnd g (rSt g n i) n
    rw [← ih]
    exact rEnd_cong h hs
/-- the answer of run -/
def runA (f : Nat → Bool) (n j : Nat) : Int32 := if j < runsN f n then (if f (rSt f n j) = true then -10 - nI (rEnd f (rSt f n j) n - rSt f n j) else nI (rEnd f (rSt f n j) n - rSt f n j)) else -5
theorem runA_cong {f g : Nat → Bool} {n : Nat} (h : ∀ j, j < n → f j = g j) (j : Nat) : runA f n j = runA g n j := by
  unfold runA
  rw [← runsN_cong h]
  by_cases q : j < runsN f n
  · have hs := (rSt_spec (f := f) (n := n) j q).1
    rw [if_pos q, if_pos q, ← rSt_cong h j q, ← rEnd_cong h hs, h _ hs]
  · rw [if_neg q, if_neg q]
theorem C_RC_run {a b d : Int32} (hT : tRC sh x) (hR : rRC S x w) (hW : wOK w) (h0 : ¬ (rg a 4 = true ∧ rg b 20 = true ∧ 0 ≤ d) → P (some (.int (-1))) S)
    (h1 : ∀ c k j, c < 4 → k < 20 → j < 2 ^ 31 → a = nI c → b = nI k → d = nI j → P (some (.int (runA (kbits (aV (wA w)) c k) (aN (wA w)) j))) S) : zR G m_RC_run 4 sh [.ref x, .int a, .int b, .int d] S P := by
  obtain ⟨t0, t1, t2, t3, ⟨t4, t4q⟩, ⟨t5, t5t⟩, t6, t7, t8, t9, t10⟩ := id hT
  obtain ⟨u0, u1, u2, u3, u4, u5⟩ := id t1
  have u1a := u1.1
  obtain ⟨r0, rc, rh, rh2, ⟨rq8, rq0, rq⟩, ⟨rL, rtx⟩, rt⟩ := id hR
  obtain ⟨v0, v1, v2, v3, v4, v5⟩ := id r0
  have z0 : zi S (x + 1 + 1) 1 = nI (aN (wA w)) := v0.1
  obtain ⟨g0, gi, ⟨g2, g2q⟩, ⟨g3, g3x⟩, g4⟩ := id hW
  obtain ⟨⟨b1, b2, b3, b4, b5⟩, ⟨e1, e2, e3, e4, e5⟩, eV, eM, eMo, eS, eB⟩ := id g0
  have hv : ∀ j, j < aN (wA w) → ∀ c, c < 4 → aV (wA w) j c < 16 := fun j hj c hc => (eV j hj c hc).2
  refine s_meth 4 ⟨p_RC, rfl, Nat.le_of_ble_eq_true rfl⟩ rfl (fun sz => ?_)
  refine z_iload_n dX9_run_0 rfl ?_
  refine s_callS1 l_RC_102 (C_RC_isColumn) dX9_run_1 rfl rfl (Nat.le_of_ble_eq_true rfl) ⟨⟨by decide, by decide⟩, by decide, by decide⟩ ?_
  refine z_if_eq 18 dX9_run_4 (by decide) (fun c4 => ?_) (fun c4 => ?_)
  · refine z_iconst (-1) dX9_run_18 rfl ?_
    refine z_ireturn dX9_run_19 rfl rfl ⟨Nat.le_refl _, Nat.le_refl _⟩ ?_
    first
      | exact ⟨rfl, _, rfl, h0 (fun q => zoT q.1 c4)⟩
      | exact ⟨rfl, _, rfl, h0 (fun q => zoT q.2.1 c11)⟩
      | exact ⟨rfl, _, rfl, h0 (fun q => c15 q.2.2)⟩
      | skip
  · refine z_iload_n dX9_run_7 rfl ?_
    refine s_callS1 l_RC_123 (C_RC_isKind) dX9_run_8 rfl rfl (Nat.le_of_ble_eq_true rfl) ⟨⟨by decide, by decide⟩, by decide, by decide⟩ ?_
    refine z_if_eq 18 dX9_run_11 (by decide) (fun c11 => ?_) (fun c11 => ?_)
    · refine z_iconst (-1) dX9_run_18 rfl ?_
      refine z_ireturn dX9_run_19 rfl rfl ⟨Nat.le_refl _, Nat.le_refl _⟩ ?_
      first
        | exact ⟨rfl, _, rfl, h0 (fun q => zoT q.1 c4)⟩
        | exact ⟨rfl, _, rfl, h0 (fun q => zoT q.2.1 c11)⟩
        | exact ⟨rfl, _, rfl, h0 (fun q => c15 q.2.2)⟩
        | skip
    · refine z_iload_n dX9_run_14 rfl ?_
      refine z_if_ge 20 dX9_run_15 (by decide) (fun c15 => ?_) (fun c15 => ?_)
      · obtain ⟨c, hc, rfl⟩ := rg_t (by decide) (zo_ne0.mp c4)
        obtain ⟨k, hk, rfl⟩ := rg_t (by decide) (zo_ne0.mp c11)
        obtain ⟨j, hj, rfl⟩ := nI_of (Int32.not_lt.mpr c15)
        have ha := u1.2.2 (c * 20 + k) (by omega)
        have hbk : ∀ i, i < aN (wA w) → bq S (x + 1 + 1 + 2 + (c * 20 + k)) i = kbits (aV (wA w)) c k i := fun i hi => by
          rw [v0.2 _ (by omega) i (by omega), kq_at _ hk]
          simp [hi, kbits]
        refine z_aload_n dX9_run_20 rfl ?_
        refine s_getr f_RC_14 dX9_run_21 (by assumption) rfl ?_
        refine s_getr f_RC_85 dX9_run_24 (by assumption) rfl ?_
        refine z_iload_n dX9_run_27 rfl ?_
        refine z_iload_n dX9_run_28 rfl ?_
        refine s_callV1 l_RC_126 (C_Rows_bitsOf u1 hc hk) u1a dX9_run_29 rfl rfl (Nat.le_of_ble_eq_true rfl) ⟨⟨by decide, by decide⟩, by decide, by decide⟩ ?_
        refine z_astore (lv' := [_, _, _, _, _, _, _, _]) dX9_run_32 (by decide) rfl ?_
        refine z_aload_n dX9_run_34 rfl ?_
        refine s_getr f_RC_14 dX9_run_35 (by assumption) rfl ?_
        refine s_getr f_RC_85 dX9_run_38 (by assumption) rfl ?_
        refine s_geti f_RC_96 dX9_run_41 (by assumption) rfl ?_
        rw [z0]
        refine z_istore (lv' := [_, _, _, _, _, _, _, _]) dX9_run_44 (by decide) rfl ?_
        refine z_aload dX9_run_46 rfl ?_
        refine z_iload_n dX9_run_48 rfl ?_
        refine z_iload dX9_run_49 rfl ?_
        refine s_callV1 l_RC_134 (C_Bits_startOfRun ha hj (by omega)) ha dX9_run_51 rfl rfl (Nat.le_of_ble_eq_true rfl) ⟨⟨by decide, by decide⟩, by decide, by decide⟩ ?_
        refine z_istore (lv' := [_, _, _, _, _, _, _, _]) dX9_run_54 (by decide) rfl ?_
        refine z_iload dX9_run_56 rfl ?_
        refine z_if_ge 64 dX9_run_58 (by decide) (fun c58 => ?_) (fun c58 => ?_)
        · have hr : j < runsN (bq S (x + 1 + 1 + 2 + (c * 20 + k))) (aN (wA w)) := by
            by_cases q : j < runsN (bq S (x + 1 + 1 + 2 + (c * 20 + k))) (aN (wA w))
            · exact q
            · rw [if_neg q] at c58; exact absurd c58 (by decide)
          have hs := (rSt_spec (f := bq S (x + 1 + 1 + 2 + (c * 20 + k))) (n := aN (wA w)) j hr).1
          have he := (rEnd_spec (f := bq S (x + 1 + 1 + 2 + (c * 20 + k))) hs).1
          rw [if_pos hr]
          refine z_aload dX9_run_64 rfl ?_
          refine z_iload dX9_run_66 rfl ?_
          refine z_iload dX9_run_68 rfl ?_
          refine s_callV1 l_RC_137 (C_Bits_endOfRun ha hs (by omega)) ha dX9_run_70 rfl rfl (Nat.le_of_ble_eq_true rfl) ⟨⟨by decide, by decide⟩, by decide, by decide⟩ ?_
          refine z_iload dX9_run_73 rfl ?_
          refine z_isub dX9_run_75 ?_
          rw [pk_sub (Nat.le_of_lt he)]
          refine z_istore (lv' := [_, _, _, _, _, _, _, _]) dX9_run_76 (by decide) rfl ?_
          refine z_aload dX9_run_78 rfl ?_
          refine z_iload dX9_run_80 rfl ?_
          refine s_callV1 l_RC_140 (C_Bits_has ha (by omega)) ha dX9_run_82 rfl rfl (Nat.le_of_ble_eq_true rfl) ⟨⟨by decide, by decide⟩, by decide, by decide⟩ ?_
          refine z_if_eq 96 dX9_run_85 (by decide) (fun c85 => ?_) (fun c85 => ?_)
          · refine z_iload dX9_run_96 rfl ?_
            refine z_ireturn dX9_run_98 rfl rfl ⟨Nat.le_refl _, Nat.le_refl _⟩ ?_
            have hA := h1 c k j hc hk hj rfl rfl rfl
            rw [← runA_cong hbk] at hA
            unfold runA at hA
            rw [if_pos hr] at hA
            first
              | (rw [if_neg (fun q => zoT q c85)] at hA; exact ⟨rfl, _, rfl, hA⟩)
              | (rw [if_pos (zo_ne0.mp c85)] at hA; exact ⟨rfl, _, rfl, hA⟩)
              | skip
          · refine z_bipush (-10) dX9_run_88 (by decide) ?_
            refine z_iload dX9_run_90 rfl ?_
            refine z_isub dX9_run_92 ?_
            refine z_goto 98 dX9_run_93 (by decide) ?_
            refine z_ireturn dX9_run_98 rfl rfl ⟨Nat.le_refl _, Nat.le_refl _⟩ ?_
            have hA := h1 c k j hc hk hj rfl rfl rfl
            rw [← runA_cong hbk] at hA
            unfold runA at hA
            rw [if_pos hr] at hA
            first
              | (rw [if_neg (fun q => zoT q c85)] at hA; exact ⟨rfl, _, rfl, hA⟩)
              | (rw [if_pos (zo_ne0.mp c85)] at hA; exact ⟨rfl, _, rfl, hA⟩)
              | skip
        · have hr : ¬ j < runsN (bq S (x + 1 + 1 + 2 + (c * 20 + k))) (aN (wA w)) := fun q => by
            rw [if_pos q] at c58
            have hs := (rSt_spec (f := bq S (x + 1 + 1 + 2 + (c * 20 + k))) (n := aN (wA w)) j q).1
            exact c58 (nI_pos' (by omega))
          refine z_bipush (-5) dX9_run_61 (by decide) ?_
          refine z_ireturn dX9_run_63 rfl rfl ⟨Nat.le_refl _, Nat.le_refl _⟩ ?_
          have hA := h1 c k j hc hk hj rfl rfl rfl
          rw [← runA_cong hbk, show runA (bq S (x + 1 + 1 + 2 + (c * 20 + k))) (aN (wA w)) j = -5 from if_neg hr] at hA
          exact ⟨rfl, _, rfl, hA⟩
      · refine z_iconst (-1) dX9_run_18 rfl ?_
        refine z_ireturn dX9_run_19 rfl rfl ⟨Nat.le_refl _, Nat.le_refl _⟩ ?_
        first
          | exact ⟨rfl, _, rfl, h0 (fun q => zoT q.1 c4)⟩
          | exact ⟨rfl, _, rfl, h0 (fun q => zoT q.2.1 c11)⟩
          | exact ⟨rfl, _, rfl, h0 (fun q => c15 q.2.2)⟩
          | skip
end RCA

