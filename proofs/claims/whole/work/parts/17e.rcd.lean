/-! ===== RunColumns: bounds, odds, means, ends, books, judging, reading ===== -/
/-- a fault is a place, or none -/
def okF (f : Int32) : Prop := f = -1 ∨ 0 ≤ f
theorem okF_bl {f w : Int32} (h : okF f) (hw : 0 ≤ w) : okF (bl f w) := by
  unfold bl
  split
  · exact Or.inr hw
  · exact h
def keepF (L : Nat) (s t : PC) : Prop := s.1 ≤ L → okF s.2 → okF t.2
section KF
variable {tx : Nat → Int32} {L : Nat}
theorem keepF.trans {s t u : PC} (h : keepF L s t) (k : keepC L s t) (g : keepF L t u) : keepF L s u := fun h1 h2 => g (k.1 h1).2 (h h1 h2)
theorem cPass_f (hL : L ≤ 100) (c : Int32) (s : PC) : keepF L s (cPass tx L c s) := fun h1 h2 => by
  unfold cPass
  split
  · exact h2
  · exact okF_bl h2 (nI_pos' (by omega))
theorem cCol_f (hL : L ≤ 100) (s : PC) : keepF L s (cCol tx L s).2 := fun h1 h2 => by
  unfold cCol
  split
  · exact h2
  · exact okF_bl h2 (nI_pos' (by omega))
theorem cSort_f (hL : L ≤ 100) (s : PC) : keepF L s (cSort tx L s).2 := fun h1 h2 => by
  unfold cSort
  split
  · exact h2
  · split
    · exact h2
    · split
      · exact h2
      · exact okF_bl h2 (nI_pos' (by omega))
theorem cVal_f (hL : L ≤ 100) (s : PC) : keepF L s (cVal tx L s).2 := fun h1 h2 => by
  unfold cVal
  split
  · exact okF_bl h2 (nI_pos' (by omega))
  · split
    · exact h2
    · show okF (if _ then _ else _)
      split
      · exact h2
      · exact okF_bl h2 (nI_pos' (by omega))
theorem cBlf_f (hL : L ≤ 100) (s : PC) : keepF L s (cBlf tx L s) := fun h1 h2 => by
  unfold cBlf
  refine okF_bl h2 ?_
  split <;> exact nI_pos' (by omega)
theorem cClose_f (hL : L ≤ 100) (s : PC) : keepF L s (cClose tx L s) := fun h1 h2 => by
  unfold cClose
  split
  · exact h2
  · exact cBlf_f hL s h1 h2
theorem zq1_f (hL : L ≤ 100) (s : PC) : keepF L s (zq1 tx L s).2 := cCol_f hL s
theorem zq2_f (hL : L ≤ 100) (s : PC) : keepF L s (zq2 tx L s).2 := ((zq1_f hL s).trans (zq1_k s) (cPass_f hL 32 _)).trans ((zq1_k s).trans (cPass_k (by decide) _)) (cSort_f hL _)
theorem zq3_f (hL : L ≤ 100) (s : PC) : keepF L s (zq3 tx L s).2 := ((zq2_f hL s).trans (zq2_k s) (cPass_f hL 32 _)).trans ((zq2_k s).trans (cPass_k (by decide) _)) (cVal_f hL _)
theorem zq4_f (hL : L ≤ 100) (s : PC) : keepF L s (zq4 tx L s).2 := (((zq3_f hL s).trans (zq3_k s) (cPass_f hL 46 _)).trans ((zq3_k s).trans (cPass_k (by decide) _)) (cPass_f hL 46 _)).trans (((zq3_k s).trans (cPass_k (by decide) _)).trans (cPass_k (by decide) _)) (cVal_f hL _)
theorem pQ_f (hL : L ≤ 100) (s : PS) : keepF L s.c (pQ tx L s).c := by
  unfold pQ
  split
  · exact zq3_f hL s.c
  · split
    · exact zq3_f hL s.c
    · split
      · exact zq4_f hL s.c
      · exact zq2_f hL s.c
theorem cPJ_f (hL : L ≤ 100) {i : Nat} (hi : i < 7) {s : PC} (h : isJ tx L i s = true) : keepF L s (cPJ tx L i s) := by
  obtain ⟨j1, j2, j3, j4, j5⟩ := isJ_in hi h
  rw [j4]
  intro h1 h2
  exact cPass_f (tx := tx) hL 32 (s.1 + 1 + wln i, s.2) j5 h2
theorem pJn_f (hL : L ≤ 100) {i k : Nat} (hi : i < 7) {X : PS → PS} (hX : ∀ s, keepF L s.c (X s).c) {s : PS} (h : isJ tx L i s.c = true) : keepF L s.c (pJn tx L i k X s).c :=
  (cPJ_f hL hi h).trans (cPJ_k hi h) (hX (psC (cPJ tx L i s.c) s))
theorem pLoop_f (hL : L ≤ 100) {i k : Nat} (hi : i < 7) {X : PS → PS} (hk : ∀ s, keepC L s.c (X s).c) (hX : ∀ s, keepF L s.c (X s).c) : ∀ d s, keepF L s.c (pLoop tx L i k X d s).c
  | 0, s => fun _ h => h
  | d + 1, s => by
    unfold pLoop
    split
    · next h => exact (pJn_f hL hi hX h).trans (pJn_k hi hk h) (pLoop_f hL hi hk hX d _)
    · exact fun _ h => h
theorem pB_f (hL : L ≤ 100) {X : PS → PS} (hk : ∀ s, keepC L s.c (X s).c) (hX : ∀ s, keepF L s.c (X s).c) (s : PS) : keepF L s.c (pB tx L X s).c := (hX s).trans (hk s) (pLoop_f hL (by decide) hk hX 100 _)
theorem pE_f (hL : L ≤ 100) {X : PS → PS} (hk : ∀ s, keepC L s.c (X s).c) (hX : ∀ s, keepF L s.c (X s).c) (s : PS) : keepF L s.c (pE tx L X s).c := (pB_f hL hk hX s).trans (pB_k hk s) (pLoop_f hL (by decide) (pB_k hk) (pB_f hL hk hX) 100 _)
theorem pFac_f (hL : L ≤ 100) {d : Nat} {E X : PS → PS} (hkE : ∀ s, keepC L s.c (E s).c) (hE : ∀ s, keepF L s.c (E s).c) (hX : ∀ s, keepF L s.c (X s).c) (s : PS) : keepF L s.c (pFac tx L d E X s).c := by
  by_cases hf : s.f = -1
  · by_cases h1 : (isW tx L s.p 2 = true ∨ sgn tx L s.p = 40) ∧ d = 0
    · rw [pFac_1 hf h1]
      intro g1 g2
      have g1 : s.p ≤ L := g1
      exact okF_bl g2 (nI_pos' (by omega))
    · by_cases h2 : isW tx L s.p 2 = true
      · rw [pFac_2 hf h1 h2]
        have hw : s.p + 3 ≤ L := isW_in (by decide) h2
        intro g1 g2
        exact hX (psC (cPass tx L 32 (s.p + 3, s.f)) s) ((cPass_k (tx := tx) (L := L) (c := 32) (by decide) (s.p + 3, s.f)).1 hw).2 (cPass_f (tx := tx) hL 32 (s.p + 3, s.f) hw g2)
      · by_cases h3 : sgn tx L s.p = 40
        · rw [pFac_3 hf h1 h2 h3]
          exact ((cPass_f hL 40 s.c).trans (cPass_k (tx := tx) (L := L) (c := 40) (by decide) s.c) (hE (psC (cPass tx L 40 s.c) s))).trans ((cPass_k (tx := tx) (L := L) (c := 40) (by decide) s.c).trans (hkE (psC (cPass tx L 40 s.c) s))) (cClose_f hL _)
        · by_cases h4 : isW tx L s.p 3 = true
          · rw [pFac_4 hf h2 h3 h4]
            exact fun _ h => h
          · rw [pFac_5 hf h2 h3 h4]
            exact pQ_f hL s
  · rw [pFac_0 hf]
    exact fun _ h => h
theorem pF_f (hL : L ≤ 100) : ∀ d s, keepF L s.c (pF tx L d s).c
  | 0, s => pFac_f hL id_k (fun _ _ h => h) (fun _ _ h => h) s
  | d + 1, s => pFac_f hL (pE_k (pF_k d)) (pE_f hL (pF_k d) (pF_f hL d)) (pF_f hL d) s
theorem pAll_f (hL : L ≤ 100) : okF (pAll tx L).f := by
  have h1 : okF (pE tx L (pF tx L 6) ps0).f := pE_f hL (pF_k 6) (pF_f hL 6) ps0 (Nat.zero_le _) (Or.inl rfl)
  have k1 := ((pE_k (tx := tx) (pF_k (tx := tx) (L := L) 6) ps0).1 (Nat.zero_le _)).2
  rw [pAll_eq]
  split
  · exact cBlf_f hL _ k1 h1
  · exact h1
theorem pAll_p (hL : L ≤ 100) : (pAll tx L).f = -1 ∨ 0 ≤ (pAll tx L).f := pAll_f hL
end KF
theorem gcd_st (a b : Nat) : Nat.gcd a b = Nat.gcd b (a % b) := by
  rw [Nat.gcd_comm a b, Nat.gcd_rec, Nat.gcd_comm]
section RCD
variable {G : zG} {sh : Nat → Option zSh} {S : zSt} {x a n c k : Nat} {w : Wd} {P : Option Value → zSt → Prop}
theorem L_gcd {F : zFin} {sz : Nat} {a0 b0 : Int32} (g : Nat) (kk : ∀ r s z, zW G m_RC_greatestDivisor (zRm (1) 0 0) F 0 0 34 [some (.int a0), some (.int b0), some (.int r), some (.int (nI g)), some (.int s), z] [] (zhp sh S) sz) :
    ∀ m a b s z, b < 2 ^ m → a < 2 ^ 31 → b < 2 ^ 31 → s + 2 * m ≤ 64 → Nat.gcd a b = g → zW G m_RC_greatestDivisor (zRm (1) 0 0) F 0 0 7 [some (.int a0), some (.int b0), some (.int (nI b)), some (.int (nI a)), some (.int (nI s)), z] [] (zhp sh S) sz := by
  intro m
  induction m with
  | zero =>
    intro a b s z h1 h2 h3 h4 h5
    have hb : b = 0 := by simp at h1; exact h1
    subst hb
    rw [Nat.gcd_zero_right] at h5
    subst h5
    refine z_iload_n dX9_greatestDivisor_7 rfl ?_
    refine z_if_eq 34 dX9_greatestDivisor_8 (by decide) (fun c8 => ?_) (fun c8 => ?_)
    · exact kk _ _ _
    · exact absurd rfl c8
  | succ m ih =>
    intro a b s z h1 h2 h3 h4 h5
    have step : ∀ a b s z, a < 2 ^ 31 → b < 2 ^ 31 → 0 < b → s < 64 → (∀ z, zW G m_RC_greatestDivisor (zRm (1) 0 0) F 0 0 7 [some (.int a0), some (.int b0), some (.int (nI (a % b))), some (.int (nI b)), some (.int (nI (s + 1))), z] [] (zhp sh S) sz) → zW G m_RC_greatestDivisor (zRm (1) 0 0) F 0 0 7 [some (.int a0), some (.int b0), some (.int (nI b)), some (.int (nI a)), some (.int (nI s)), z] [] (zhp sh S) sz := by
      intro a b s z g1 g2 g3 g4 nx
      refine z_iload_n dX9_greatestDivisor_7 rfl ?_
      refine z_if_eq 34 dX9_greatestDivisor_8 (by decide) (fun c8 => ?_) (fun c8 => ?_)
      · exact absurd c8 (nI_ne0 g3 g2)
      · refine z_iload dX9_greatestDivisor_11 rfl ?_
        refine z_bipush 64 dX9_greatestDivisor_13 (by decide) ?_
        refine z_icmp_ge 34 dX9_greatestDivisor_15 (by decide) (fun c15 => ?_) (fun c15 => ?_)
        · exact absurd c15 (nI_ge (b := 64) g4 (by decide))
        · refine z_iload_n dX9_greatestDivisor_18 rfl ?_
          refine z_iload_n dX9_greatestDivisor_19 rfl ?_
          refine z_irem dX9_greatestDivisor_20 (by assumption) ?_
          rw [pk_rem g1 g3 g2]
          refine z_istore (lv' := [_, _, _, _, _, _]) dX9_greatestDivisor_21 (by decide) rfl ?_
          refine z_iload_n dX9_greatestDivisor_23 rfl ?_
          refine z_istore_n (lv' := [_, _, _, _, _, _]) dX9_greatestDivisor_24 (by decide) rfl ?_
          refine z_iload dX9_greatestDivisor_25 rfl ?_
          refine z_istore_n (lv' := [_, _, _, _, _, _]) dX9_greatestDivisor_27 (by decide) rfl ?_
          refine z_iinc (lv' := [_, _, _, _, _, _]) 1 dX9_greatestDivisor_28 rfl (by decide) rfl rfl ?_
          refine z_goto 7 dX9_greatestDivisor_31 (by decide) ?_
          rw [nI_1]
          exact nx _
    rcases Nat.eq_zero_or_pos b with q | q
    · subst q
      rw [Nat.gcd_zero_right] at h5
      subst h5
      refine z_iload_n dX9_greatestDivisor_7 rfl ?_
      refine z_if_eq 34 dX9_greatestDivisor_8 (by decide) (fun c8 => ?_) (fun c8 => ?_)
      · exact kk _ _ _
      · exact absurd rfl c8
    · have hr : a % b < b := Nat.mod_lt _ q
      refine step a b s z h2 h3 q (by omega) (fun z => ?_)
      rcases Nat.eq_zero_or_pos (a % b) with q2 | q2
      · rw [gcd_st, q2, Nat.gcd_zero_right] at h5
        rw [q2]
        subst h5
        refine z_iload_n dX9_greatestDivisor_7 rfl ?_
        refine z_if_eq 34 dX9_greatestDivisor_8 (by decide) (fun c8 => ?_) (fun c8 => ?_)
        · exact kk _ _ _
        · exact absurd rfl c8
      · have hr2 : b % (a % b) < a % b := Nat.mod_lt _ q2
        have hr3 : b % (a % b) + (a % b) ≤ b := by
          have e1 := Nat.div_add_mod b (a % b)
          have e2 : 1 ≤ b / (a % b) := (Nat.one_le_div_iff q2).mpr (by omega)
          have e3 : (a % b) * 1 ≤ (a % b) * (b / (a % b)) := Nat.mul_le_mul_left _ e2
          omega
        refine step b (a % b) (s + 1) z h3 (by omega) q2 (by omega) (fun z => ?_)
        refine ih (a % b) (b % (a % b)) (s + 1 + 1) z ?_ (by omega) (by omega) (by omega) (by rw [← gcd_st, ← gcd_st]; exact h5)
        rw [Nat.pow_succ] at h1
        omega
theorem C_RC_gcd {a b : Nat} (ha : a < 2 ^ 31) (hb : b < 128) : zD G m_RC_greatestDivisor 1 sh [.int (nI a), .int (nI b)] S (some (.int (nI (Nat.gcd a b)))) S := by
  refine s_methD 4 ⟨p_RC, rfl, Nat.le_of_ble_eq_true rfl⟩ rfl (fun sz => ?_)
  have back : ∀ r s z, zW G m_RC_greatestDivisor (zRm 1 0 0) (zFm G (zQe (some (.int (nI (Nat.gcd a b)))) (zhp sh S) sz) 0 0) 0 0 34 [some (.int (nI a)), some (.int (nI b)), some (.int r), some (.int (nI (Nat.gcd a b))), some (.int s), z] [] (zhp sh S) sz := by
    intro r s z
    refine z_iload_n dX9_greatestDivisor_34 rfl ?_
    refine z_ireturn dX9_greatestDivisor_35 rfl rfl ⟨Nat.le_refl _, Nat.le_refl _⟩ ?_
    exact ⟨rfl, rfl, rfl⟩
  refine z_iload_n dX9_greatestDivisor_0 rfl ?_
  refine z_istore_n (lv' := [_, _, _, _, _, _]) dX9_greatestDivisor_1 (by decide) rfl ?_
  refine z_iload_n dX9_greatestDivisor_2 rfl ?_
  refine z_istore_n (lv' := [_, _, _, _, _, _]) dX9_greatestDivisor_3 (by decide) rfl ?_
  refine z_iconst 0 dX9_greatestDivisor_4 rfl ?_
  refine z_istore (lv' := [_, _, _, _, _, _]) dX9_greatestDivisor_5 (by decide) rfl ?_
  exact L_gcd (Nat.gcd a b) back 7 a b 0 _ (by omega) ha (by omega) (by decide) rfl
theorem C_RC_low {a b : Nat} {p : Int32} (ha : a < 2 ^ 31) (hb : b < 128) : zD G m_RC_inLowestTerms 2 sh [.int (nI a), .int (nI b), .int p] S (some (.long (lowA a b p))) S := by
  have gl : Nat.gcd a b < 2 ^ 31 := by
    rcases Nat.eq_zero_or_pos b with q | q
    · rw [q, Nat.gcd_zero_right]; exact ha
    · exact Nat.lt_of_le_of_lt (Nat.gcd_le_right a q) (by omega)
  unfold lowA
  refine s_methD 1 ⟨p_RC, rfl, Nat.le_of_ble_eq_true rfl⟩ rfl (fun sz => ?_)
  refine z_iload_n dX9_inLowestTerms_0 rfl ?_
  refine z_iload_n dX9_inLowestTerms_1 rfl ?_
  refine s_callS1 l_RC_295 (C_RC_gcd ha hb) dX9_inLowestTerms_2 rfl rfl (Nat.le_of_ble_eq_true rfl) ⟨⟨by decide, by decide⟩, by decide, by decide⟩ ?_
  refine z_istore_n (lv' := [_, _, _, _]) dX9_inLowestTerms_5 (by decide) rfl ?_
  refine z_iload_n dX9_inLowestTerms_6 rfl ?_
  refine z_if_eq 14 dX9_inLowestTerms_7 (by decide) (fun c7 => ?_) (fun c7 => ?_)
  · have hb0 : b = 0 := (nI_eq (b := 0) (by omega) (by decide)).mp c7
    rw [if_pos hb0]
    refine z_ldc2 (-9223372036854775808) v_RC_228 dX9_inLowestTerms_14 ?_
    refine z_lreturn dX9_inLowestTerms_17 rfl ⟨Nat.le_refl _, Nat.le_refl _⟩ ?_
    exact ⟨rfl, rfl, rfl⟩
  · have hb0 : ¬ b = 0 := fun q => c7 (by rw [q]; rfl)
    have gp : 0 < Nat.gcd a b := Nat.gcd_pos_of_pos_right a (Nat.pos_of_ne_zero hb0)
    refine z_iload_n dX9_inLowestTerms_10 rfl ?_
    refine z_if_ne 18 dX9_inLowestTerms_11 (by decide) (fun c11 => ?_) (fun c11 => ?_)
    · rw [if_neg hb0]
      refine z_iload_n dX9_inLowestTerms_18 rfl ?_
      refine z_if_ne 26 dX9_inLowestTerms_19 (by decide) (fun c19 => ?_) (fun c19 => ?_)
      · rw [if_neg c19]
        refine z_iload_n dX9_inLowestTerms_26 rfl ?_
        refine z_iload_n dX9_inLowestTerms_27 rfl ?_
        refine z_idiv dX9_inLowestTerms_28 (nI_ne0 gp gl) ?_
        rw [pk_div (by omega) gp gl]
        refine z_i2l dX9_inLowestTerms_29 ?_
        refine z_lreturn dX9_inLowestTerms_30 rfl ⟨Nat.le_refl _, Nat.le_refl _⟩ ?_
        exact ⟨rfl, rfl, rfl⟩
      · rw [if_pos c19]
        refine z_iload_n dX9_inLowestTerms_22 rfl ?_
        refine z_goto 27 dX9_inLowestTerms_23 (by decide) ?_
        refine z_iload_n dX9_inLowestTerms_27 rfl ?_
        refine z_idiv dX9_inLowestTerms_28 (nI_ne0 gp gl) ?_
        rw [pk_div (by omega) gp gl]
        refine z_i2l dX9_inLowestTerms_29 ?_
        refine z_lreturn dX9_inLowestTerms_30 rfl ⟨Nat.le_refl _, Nat.le_refl _⟩ ?_
        exact ⟨rfl, rfl, rfl⟩
    · exact absurd c11 (nI_ne0 gp gl)
theorem C_RC_odds {a b : Int32} (hT : tRC sh x) (hR : rRC S x w) (hW : wOK w) (h0 : ¬ (rg a (wq w) = true ∧ rg b 2 = true) → P (some (.long (-9223372036854775808))) S)
    (h1 : ∀ k S', k < wq w → a = nI k → rg b 2 = true → frS S (inScr x) S' → P (some (.long (lowA (qct w k) (aN (wA w)) b))) S') : zR G m_RC_odds 7 sh [.ref x, .int a, .int b] S P := by
  obtain ⟨t0, t1, t2, t3, ⟨t4, t4q⟩, ⟨t5, t5t⟩, t6, t7, t8, t9, t10⟩ := id hT
  obtain ⟨u0, u1, u2, u3, u4, u5⟩ := id t1
  have u1a := u1.1
  obtain ⟨r0, rc, rh, rh2, ⟨rq8, rq0, rq⟩, ⟨rL, rtx⟩, rt⟩ := id hR
  obtain ⟨v0, v1, v2, v3, v4, v5⟩ := id r0
  have z0 : zi S (x + 1 + 1) 1 = nI (aN (wA w)) := v0.1
  obtain ⟨g0, gi, ⟨g2, g2q⟩, ⟨g3, g3x⟩, g4⟩ := id hW
  obtain ⟨⟨b1, b2, b3, b4, b5⟩, ⟨e1, e2, e3, e4, e5⟩, eV, eM, eMo, eS, eB⟩ := id g0
  have hv : ∀ j, j < aN (wA w) → ∀ c, c < 4 → aV (wA w) j c < 16 := fun j hj c hc => (eV j hj c hc).2
  have hbB := t6.2.2.2.2 0 (by decide)
  refine s_meth 0 ⟨p_RC, rfl, Nat.le_of_ble_eq_true rfl⟩ rfl (fun sz => ?_)
  refine z_aload_n dX9_odds_0 rfl ?_
  refine z_iload_n dX9_odds_1 rfl ?_
  refine s_callV1 l_RC_152 (C_RC_isQuery hT hR) t0 dX9_odds_2 rfl rfl (Nat.le_of_ble_eq_true rfl) ⟨⟨by decide, by decide⟩, by decide, by decide⟩ ?_
  refine z_if_eq 15 dX9_odds_5 (by decide) (fun c5 => ?_) (fun c5 => ?_)
  · refine z_ldc2 (-9223372036854775808) v_RC_228 dX9_odds_15 ?_
    refine z_lreturn dX9_odds_18 rfl ⟨Nat.le_refl _, Nat.le_refl _⟩ ?_
    first
      | exact ⟨rfl, _, rfl, h0 (fun q => zoT q.1 c5)⟩
      | exact ⟨rfl, _, rfl, h0 (fun q => zoT q.2 c12)⟩
      | skip
  · refine z_iload_n dX9_odds_8 rfl ?_
    refine s_callS1 l_RC_225 (C_RC_isPart) dX9_odds_9 rfl rfl (Nat.le_of_ble_eq_true rfl) ⟨⟨by decide, by decide⟩, by decide, by decide⟩ ?_
    refine z_if_ne 19 dX9_odds_12 (by decide) (fun c12 => ?_) (fun c12 => ?_)
    · obtain ⟨k, hk, rfl⟩ := rg_t (by omega) (zo_ne0.mp c5)
      have hct : qct w k ≤ 120 := Nat.le_trans (fb_ct_le _ _) b1
      refine z_aload_n dX9_odds_19 rfl ?_
      refine z_iload_n dX9_odds_20 rfl ?_
      refine n_callV1 l_RC_179 (C_RC_resultOf hT hR hW hk) t0 dX9_odds_21 rfl rfl (Nat.le_of_ble_eq_true rfl) ⟨⟨by decide, by decide⟩, by decide, by decide⟩ (fun S21 q21 => ?_)
      refine s_callV1 l_RC_163 (C_Bits_ones hbB) hbB dX9_odds_24 rfl rfl (Nat.le_of_ble_eq_true rfl) ⟨⟨by decide, by decide⟩, by decide, by decide⟩ ?_
      refine z_aload_n dX9_odds_27 rfl ?_
      refine s_getr f_RC_14 dX9_odds_28 (by assumption) rfl ?_
      refine s_getr f_RC_85 dX9_odds_31 (by assumption) rfl ?_
      refine s_geti f_RC_96 dX9_odds_34 (by assumption) rfl ?_
      rw [q21.2.ct (by omega), show zi S21 (x + 1 + 1) 1 = nI (aN (wA w)) from (congrFun (q21.1 _ (by unfold inWork; omega)).1 1).trans z0]
      refine z_iload_n dX9_odds_37 rfl ?_
      refine s_callS1 l_RC_230 (C_RC_low (a := qct w k) (by omega) (by omega)) dX9_odds_38 rfl rfl (Nat.le_of_ble_eq_true rfl) ⟨⟨by decide, by decide⟩, by decide, by decide⟩ ?_
      refine z_lreturn dX9_odds_41 rfl ⟨Nat.le_refl _, Nat.le_refl _⟩ ?_
      exact ⟨rfl, _, rfl, h1 k _ hk rfl (zo_ne0.mp c12) (q21.1.weaken (fun b hb => inW_Scr hb))⟩
    · refine z_ldc2 (-9223372036854775808) v_RC_228 dX9_odds_15 ?_
      refine z_lreturn dX9_odds_18 rfl ⟨Nat.le_refl _, Nat.le_refl _⟩ ?_
      first
        | exact ⟨rfl, _, rfl, h0 (fun q => zoT q.1 c5)⟩
        | exact ⟨rfl, _, rfl, h0 (fun q => zoT q.2 c12)⟩
        | skip
theorem C_RC_mean {a b d : Int32} (hT : tRC sh x) (hR : rRC S x w) (hW : wOK w) (h0 : ¬ (rg a (wq w) = true ∧ rg b 4 = true ∧ rg d 2 = true) → P (some (.long (-9223372036854775808))) S)
    (h1 : ∀ k c S', k < wq w → a = nI k → c < 4 → b = nI c → rg d 2 = true → frS S (inScr x) S' → P (some (.long (lowA (fb_sm (fun v => v * gct (qI w k).1 (aV (wA w)) (aN (wA w)) c v) 16) (qct w k) d))) S') : zR G m_RC_mean 7 sh [.ref x, .int a, .int b, .int d] S P := by
  obtain ⟨t0, t1, t2, t3, ⟨t4, t4q⟩, ⟨t5, t5t⟩, t6, t7, t8, t9, t10⟩ := id hT
  obtain ⟨u0, u1, u2, u3, u4, u5⟩ := id t1
  have u1a := u1.1
  obtain ⟨r0, rc, rh, rh2, ⟨rq8, rq0, rq⟩, ⟨rL, rtx⟩, rt⟩ := id hR
  obtain ⟨v0, v1, v2, v3, v4, v5⟩ := id r0
  have z0 : zi S (x + 1 + 1) 1 = nI (aN (wA w)) := v0.1
  obtain ⟨g0, gi, ⟨g2, g2q⟩, ⟨g3, g3x⟩, g4⟩ := id hW
  obtain ⟨⟨b1, b2, b3, b4, b5⟩, ⟨e1, e2, e3, e4, e5⟩, eV, eM, eMo, eS, eB⟩ := id g0
  have hv : ∀ j, j < aN (wA w) → ∀ c, c < 4 → aV (wA w) j c < 16 := fun j hj c hc => (eV j hj c hc).2
  have hbB := t6.2.2.2.2 0 (by decide)
  have t9a := t9.1
  refine s_meth 0 ⟨p_RC, rfl, Nat.le_of_ble_eq_true rfl⟩ rfl (fun sz => ?_)
  refine z_aload_n dX9_mean_0 rfl ?_
  refine z_iload_n dX9_mean_1 rfl ?_
  refine s_callV1 l_RC_152 (C_RC_isQuery hT hR) t0 dX9_mean_2 rfl rfl (Nat.le_of_ble_eq_true rfl) ⟨⟨by decide, by decide⟩, by decide, by decide⟩ ?_
  refine z_if_eq 22 dX9_mean_5 (by decide) (fun c5 => ?_) (fun c5 => ?_)
  · refine z_ldc2 (-9223372036854775808) v_RC_228 dX9_mean_22 ?_
    refine z_lreturn dX9_mean_25 rfl ⟨Nat.le_refl _, Nat.le_refl _⟩ ?_
    first
      | exact ⟨rfl, _, rfl, h0 (fun q => zoT q.1 c5)⟩
      | exact ⟨rfl, _, rfl, h0 (fun q => zoT q.2.1 c12)⟩
      | exact ⟨rfl, _, rfl, h0 (fun q => zoT q.2.2 c19)⟩
      | skip
  · refine z_iload_n dX9_mean_8 rfl ?_
    refine s_callS1 l_RC_102 (C_RC_isColumn) dX9_mean_9 rfl rfl (Nat.le_of_ble_eq_true rfl) ⟨⟨by decide, by decide⟩, by decide, by decide⟩ ?_
    refine z_if_eq 22 dX9_mean_12 (by decide) (fun c12 => ?_) (fun c12 => ?_)
    · refine z_ldc2 (-9223372036854775808) v_RC_228 dX9_mean_22 ?_
      refine z_lreturn dX9_mean_25 rfl ⟨Nat.le_refl _, Nat.le_refl _⟩ ?_
      first
        | exact ⟨rfl, _, rfl, h0 (fun q => zoT q.1 c5)⟩
        | exact ⟨rfl, _, rfl, h0 (fun q => zoT q.2.1 c12)⟩
        | exact ⟨rfl, _, rfl, h0 (fun q => zoT q.2.2 c19)⟩
        | skip
    · refine z_iload_n dX9_mean_15 rfl ?_
      refine s_callS1 l_RC_225 (C_RC_isPart) dX9_mean_16 rfl rfl (Nat.le_of_ble_eq_true rfl) ⟨⟨by decide, by decide⟩, by decide, by decide⟩ ?_
      refine z_if_ne 26 dX9_mean_19 (by decide) (fun c19 => ?_) (fun c19 => ?_)
      · obtain ⟨k, hk, rfl⟩ := rg_t (by omega) (zo_ne0.mp c5)
        obtain ⟨c, hc, rfl⟩ := rg_t (by decide) (zo_ne0.mp c12)
        have hct : qct w k ≤ 120 := Nat.le_trans (fb_ct_le _ _) b1
        have hzl : ∀ i, gct (qI w k).1 (aV (wA w)) (aN (wA w)) c i ≤ 120 := fun i => Nat.le_trans (gct_le _ _ _ _ _) b1
        have hsm := gct_sum (qI w k).1 (aV (wA w)) c (aN (wA w)) (fun j hj => hv j hj c hc)
        have hsb : fb_sm (fun v => v * gct (qI w k).1 (aV (wA w)) (aN (wA w)) c v) 16 ≤ 16 * (16 * 120) := fb_sm_bound (fun v hv => Nat.mul_le_mul (by omega) (hzl v))
        refine z_aload_n dX9_mean_26 rfl ?_
        refine s_getr f_RC_68 dX9_mean_27 (by assumption) rfl ?_
        refine z_aload_n dX9_mean_30 rfl ?_
        refine z_iload_n dX9_mean_31 rfl ?_
        refine n_callV1 l_RC_179 (C_RC_resultOf hT hR hW hk) t0 dX9_mean_32 rfl rfl (Nat.le_of_ble_eq_true rfl) ⟨⟨by decide, by decide⟩, by decide, by decide⟩ (fun S32 q32 => ?_)
        refine z_aload_n dX9_mean_35 rfl ?_
        refine s_getr f_RC_14 dX9_mean_36 (by assumption) rfl ?_
        refine s_getr f_RC_85 dX9_mean_39 (by assumption) rfl ?_
        refine z_iload_n dX9_mean_42 rfl ?_
        refine n_callV0 l_RC_183 (C_Groups_fill t9 hbB u1 (by omega) q32.2 (v0.fr q32.1 (fun b b1 b2 => by unfold inWork; omega)) b1 hc) t9a dX9_mean_43 rfl rfl (Nat.le_of_ble_eq_true rfl) ⟨⟨by decide, by decide⟩, by decide, by decide⟩ (fun S43 q43 => ?_)
        refine z_aload_n dX9_mean_46 rfl ?_
        refine s_getr f_RC_68 dX9_mean_47 (by assumption) rfl ?_
        refine s_callV1 l_RC_234 (C_Groups_sum t9 q43.2.2) t9a dX9_mean_50 rfl rfl (Nat.le_of_ble_eq_true rfl) ⟨⟨by decide, by decide⟩, by decide, by decide⟩ ?_
        refine z_aload_n dX9_mean_53 rfl ?_
        refine s_getr f_RC_68 dX9_mean_54 (by assumption) rfl ?_
        refine s_geti f_RC_237 dX9_mean_57 (by assumption) rfl ?_
        rw [q43.2.1, hsm]
        refine z_iload_n dX9_mean_60 rfl ?_
        refine s_callS1 l_RC_230 (C_RC_low (b := qct w k) (by omega) (by omega)) dX9_mean_61 rfl rfl (Nat.le_of_ble_eq_true rfl) ⟨⟨by decide, by decide⟩, by decide, by decide⟩ ?_
        refine z_lreturn dX9_mean_64 rfl ⟨Nat.le_refl _, Nat.le_refl _⟩ ?_
        exact ⟨rfl, _, rfl, h1 k c _ hk rfl hc rfl (zo_ne0.mp c19) (grScr q32.1 q43)⟩
      · refine z_ldc2 (-9223372036854775808) v_RC_228 dX9_mean_22 ?_
        refine z_lreturn dX9_mean_25 rfl ⟨Nat.le_refl _, Nat.le_refl _⟩ ?_
        first
          | exact ⟨rfl, _, rfl, h0 (fun q => zoT q.1 c5)⟩
          | exact ⟨rfl, _, rfl, h0 (fun q => zoT q.2.1 c12)⟩
          | exact ⟨rfl, _, rfl, h0 (fun q => zoT q.2.2 c19)⟩
          | skip
theorem C_RC_bounds {a b : Int32} (hT : tRC sh x) (hR : rRC S x w) (hW : wOK w) (h0 : ¬ (rg a 4 = true ∧ rg b 2 = true) → P (some (.int (-1))) S)
    (h1 : ∀ c, c < 4 → a = nI c → rg b 2 = true → P (some (.int (if b = 0 then nI (bdS (fun v => allB (sbB (wA w) (wg w) c v) (aS (wA w))) 16).2 else (bdS (fun v => allB (sbB (wA w) (wg w) c v) (aS (wA w))) 16).1))) S) : zR G m_RC_bounds 4 sh [.ref x, .int a, .int b] S P := by
  obtain ⟨t0, t1, t2, t3, ⟨t4, t4q⟩, ⟨t5, t5t⟩, t6, t7, t8, t9, t10⟩ := id hT
  obtain ⟨u0, u1, u2, u3, u4, u5⟩ := id t1
  have u1a := u1.1
  obtain ⟨r0, rc, rh, rh2, ⟨rq8, rq0, rq⟩, ⟨rL, rtx⟩, rt⟩ := id hR
  obtain ⟨v0, v1, v2, v3, v4, v5⟩ := id r0
  have z0 : zi S (x + 1 + 1) 1 = nI (aN (wA w)) := v0.1
  obtain ⟨g0, gi, ⟨g2, g2q⟩, ⟨g3, g3x⟩, g4⟩ := id hW
  obtain ⟨⟨b1, b2, b3, b4, b5⟩, ⟨e1, e2, e3, e4, e5⟩, eV, eM, eMo, eS, eB⟩ := id g0
  have hv : ∀ j, j < aN (wA w) → ∀ c, c < 4 → aV (wA w) j c < 16 := fun j hj c hc => (eV j hj c hc).2
  refine s_meth 3 ⟨p_RC, rfl, Nat.le_of_ble_eq_true rfl⟩ rfl (fun sz => ?_)
  have loop : ∀ c, c < 4 → a = nI c → rg b 2 = true → ∀ i d1 d2, i < 16 → d1 = (bdS (fun v => allB (sbB (wA w) (wg w) c v) (aS (wA w))) (15 - i)).1 → d2 = (bdS (fun v => allB (sbB (wA w) (wg w) c v) (aS (wA w))) (15 - i)).2 → zW G m_RC_bounds (zRm 4 0 0) (zFm G (zP sh sz P) 0 0) 0 0 28 [some (.ref x), some (.int a), some (.int b), some (.int d1), some (.int (nI d2)), some (.int (nI i))] [] (zhp sh S) sz := by
    intro c hc hac hb2 i
    have fin : ∀ d1 d2, d1 = (bdS (fun v => allB (sbB (wA w) (wg w) c v) (aS (wA w))) 16).1 → d2 = (bdS (fun v => allB (sbB (wA w) (wg w) c v) (aS (wA w))) 16).2 → zW G m_RC_bounds (zRm 4 0 0) (zFm G (zP sh sz P) 0 0) 0 0 28 [some (.ref x), some (.int a), some (.int b), some (.int d1), some (.int (nI d2)), some (.int (-1))] [] (zhp sh S) sz := by
      intro d1 d2 e1 e2
      have hA := h1 c hc hac hb2
      rw [← e1, ← e2] at hA
      refine z_iload dX9_bounds_28 rfl ?_
      refine z_if_lt 58 dX9_bounds_30 (by decide) (fun c30 => ?_) (fun c30 => ?_)
      · refine z_iload_n dX9_bounds_58 rfl ?_
        refine z_if_ne 67 dX9_bounds_59 (by decide) (fun c59 => ?_) (fun c59 => ?_)
        · rw [if_neg c59] at hA
          refine z_iload_n dX9_bounds_67 rfl ?_
          refine z_ireturn dX9_bounds_68 rfl rfl ⟨Nat.le_refl _, Nat.le_refl _⟩ ?_
          exact ⟨rfl, _, rfl, hA⟩
        · rw [if_pos c59] at hA
          refine z_iload dX9_bounds_62 rfl ?_
          refine z_goto 68 dX9_bounds_64 (by decide) ?_
          refine z_ireturn dX9_bounds_68 rfl rfl ⟨Nat.le_refl _, Nat.le_refl _⟩ ?_
          exact ⟨rfl, _, rfl, hA⟩
      · exact absurd (show (-1 : Int32) < 0 by decide) c30
    subst hac
    induction i with
    | zero =>
      intro d1 d2 hi e1 e2
      have st : bdS (fun v => allB (sbB (wA w) (wg w) c v) (aS (wA w))) 16 = if allB (sbB (wA w) (wg w) c 0) (aS (wA w)) = true then (nI 0, (bdS (fun v => allB (sbB (wA w) (wg w) c v) (aS (wA w))) 15).2 + 1) else bdS (fun v => allB (sbB (wA w) (wg w) c v) (aS (wA w))) 15 := rfl
      refine z_iload dX9_bounds_28 rfl ?_
      refine z_if_lt 58 dX9_bounds_30 (by decide) (fun c30 => ?_) (fun c30 => ?_)
      · exact absurd c30 (nI_pos (n := 0) (by decide))
      · refine z_aload_n dX9_bounds_33 rfl ?_
        refine s_getr f_RC_14 dX9_bounds_34 (by assumption) rfl ?_
        refine z_iload_n dX9_bounds_37 rfl ?_
        refine z_iload dX9_bounds_38 rfl ?_
        refine s_callV1 l_RC_221 (C_State_isSeenBelow t1 r0 g0 hc (by decide)) u0 dX9_bounds_40 rfl rfl (Nat.le_of_ble_eq_true rfl) ⟨⟨by decide, by decide⟩, by decide, by decide⟩ ?_
        refine z_if_eq 52 dX9_bounds_43 (by decide) (fun c43 => ?_) (fun c43 => ?_)
        · rw [if_neg (fun q => zoT q c43)] at st
          refine z_iinc (lv' := [_, _, _, _, _, _]) (-1) dX9_bounds_52 rfl (by decide) rfl rfl ?_
          refine z_goto 28 dX9_bounds_55 (by decide) ?_
          first
            | exact fin _ _ (by rw [st]; exact e1) (by rw [st]; exact e2)
            | (rw [nI_1]; exact fin _ _ (by rw [st]) (by rw [st, e2]))
            | skip
        · rw [if_pos (zo_ne0.mp c43)] at st
          refine z_iload dX9_bounds_46 rfl ?_
          refine z_istore_n (lv' := [_, _, _, _, _, _]) dX9_bounds_48 (by decide) rfl ?_
          refine z_iinc (lv' := [_, _, _, _, _, _]) 1 dX9_bounds_49 rfl (by decide) rfl rfl ?_
          refine z_iinc (lv' := [_, _, _, _, _, _]) (-1) dX9_bounds_52 rfl (by decide) rfl rfl ?_
          refine z_goto 28 dX9_bounds_55 (by decide) ?_
          first
            | exact fin _ _ (by rw [st]; exact e1) (by rw [st]; exact e2)
            | (rw [nI_1]; exact fin _ _ (by rw [st]) (by rw [st, e2]))
            | skip
    | succ i ih =>
      intro d1 d2 hi e1 e2
      have st : bdS (fun v => allB (sbB (wA w) (wg w) c v) (aS (wA w))) (15 - i) = if allB (sbB (wA w) (wg w) c (i + 1)) (aS (wA w)) = true then (nI (i + 1), (bdS (fun v => allB (sbB (wA w) (wg w) c v) (aS (wA w))) (15 - (i + 1))).2 + 1) else bdS (fun v => allB (sbB (wA w) (wg w) c v) (aS (wA w))) (15 - (i + 1)) := by
        obtain ⟨m, hm⟩ : ∃ m, 15 - i = m + 1 := ⟨14 - i, by omega⟩
        rw [hm, show 15 - (i + 1) = m by omega, show i + 1 = 15 - m by omega]
        rfl
      refine z_iload dX9_bounds_28 rfl ?_
      refine z_if_lt 58 dX9_bounds_30 (by decide) (fun c30 => ?_) (fun c30 => ?_)
      · exact absurd c30 (nI_pos (n := i + 1) (by omega))
      · refine z_aload_n dX9_bounds_33 rfl ?_
        refine s_getr f_RC_14 dX9_bounds_34 (by assumption) rfl ?_
        refine z_iload_n dX9_bounds_37 rfl ?_
        refine z_iload dX9_bounds_38 rfl ?_
        refine s_callV1 l_RC_221 (C_State_isSeenBelow t1 r0 g0 hc (by omega)) u0 dX9_bounds_40 rfl rfl (Nat.le_of_ble_eq_true rfl) ⟨⟨by decide, by decide⟩, by decide, by decide⟩ ?_
        refine z_if_eq 52 dX9_bounds_43 (by decide) (fun c43 => ?_) (fun c43 => ?_)
        · rw [if_neg (fun q => zoT q c43)] at st
          refine z_iinc (lv' := [_, _, _, _, _, _]) (-1) dX9_bounds_52 rfl (by decide) rfl rfl ?_
          refine z_goto 28 dX9_bounds_55 (by decide) ?_
          rw [nI_m1]
          first
            | exact ih _ _ (by omega) (by rw [st]; exact e1) (by rw [st]; exact e2)
            | (rw [nI_1]; exact ih _ _ (by omega) (by rw [st]) (by rw [st, e2]))
            | skip
        · rw [if_pos (zo_ne0.mp c43)] at st
          refine z_iload dX9_bounds_46 rfl ?_
          refine z_istore_n (lv' := [_, _, _, _, _, _]) dX9_bounds_48 (by decide) rfl ?_
          refine z_iinc (lv' := [_, _, _, _, _, _]) 1 dX9_bounds_49 rfl (by decide) rfl rfl ?_
          refine z_iinc (lv' := [_, _, _, _, _, _]) (-1) dX9_bounds_52 rfl (by decide) rfl rfl ?_
          refine z_goto 28 dX9_bounds_55 (by decide) ?_
          rw [nI_m1]
          first
            | exact ih _ _ (by omega) (by rw [st]; exact e1) (by rw [st]; exact e2)
            | (rw [nI_1]; exact ih _ _ (by omega) (by rw [st]) (by rw [st, e2]))
            | skip
  refine z_iload_n dX9_bounds_0 rfl ?_
  refine s_callS1 l_RC_102 (C_RC_isColumn) dX9_bounds_1 rfl rfl (Nat.le_of_ble_eq_true rfl) ⟨⟨by decide, by decide⟩, by decide, by decide⟩ ?_
  refine z_if_eq 16 dX9_bounds_4 (by decide) (fun c4 => ?_) (fun c4 => ?_)
  · refine z_iconst (-1) dX9_bounds_16 rfl ?_
    refine z_ireturn dX9_bounds_17 rfl rfl ⟨Nat.le_refl _, Nat.le_refl _⟩ ?_
    first
      | exact ⟨rfl, _, rfl, h0 (fun q => zoT q.1 c4)⟩
      | exact ⟨rfl, _, rfl, h0 (fun q => Int32.not_lt.mpr (of_decide_eq_true q.2).1 c8)⟩
      | exact ⟨rfl, _, rfl, h0 (fun q => by
          obtain ⟨j, hj, rfl⟩ := rg_t (by decide) q.2
          exact c13 (nI_le (b := 1) (by omega) (by decide)))⟩
      | skip
  · refine z_iload_n dX9_bounds_7 rfl ?_
    refine z_if_lt 16 dX9_bounds_8 (by decide) (fun c8 => ?_) (fun c8 => ?_)
    · refine z_iconst (-1) dX9_bounds_16 rfl ?_
      refine z_ireturn dX9_bounds_17 rfl rfl ⟨Nat.le_refl _, Nat.le_refl _⟩ ?_
      first
        | exact ⟨rfl, _, rfl, h0 (fun q => zoT q.1 c4)⟩
        | exact ⟨rfl, _, rfl, h0 (fun q => Int32.not_lt.mpr (of_decide_eq_true q.2).1 c8)⟩
        | exact ⟨rfl, _, rfl, h0 (fun q => by
            obtain ⟨j, hj, rfl⟩ := rg_t (by decide) q.2
            exact c13 (nI_le (b := 1) (by omega) (by decide)))⟩
        | skip
    · refine z_iload_n dX9_bounds_11 rfl ?_
      refine z_iconst 1 dX9_bounds_12 rfl ?_
      refine z_icmp_le 18 dX9_bounds_13 (by decide) (fun c13 => ?_) (fun c13 => ?_)
      · refine z_bipush (-5) dX9_bounds_18 (by decide) ?_
        refine z_istore_n (lv' := [_, _, _, _, _, _]) dX9_bounds_20 (by decide) rfl ?_
        refine z_iconst 0 dX9_bounds_21 rfl ?_
        refine z_istore (lv' := [_, _, _, _, _, _]) dX9_bounds_22 (by decide) rfl ?_
        refine z_bipush 15 dX9_bounds_24 (by decide) ?_
        refine z_istore (lv' := [_, _, _, _, _, _]) dX9_bounds_26 (by decide) rfl ?_
        have hb2 : rg b 2 = true := by
          obtain ⟨j, hj, rfl⟩ := nI_of c8
          exact rg_n (by have := i_le (b := 1) hj (by decide) c13; omega) (by decide)
        obtain ⟨c, hc, e⟩ := rg_t (by decide) (zo_ne0.mp c4)
        exact loop c hc e hb2 15 (-5) 0 (by decide) rfl rfl
      · refine z_iconst (-1) dX9_bounds_16 rfl ?_
        refine z_ireturn dX9_bounds_17 rfl rfl ⟨Nat.le_refl _, Nat.le_refl _⟩ ?_
        first
          | exact ⟨rfl, _, rfl, h0 (fun q => zoT q.1 c4)⟩
          | exact ⟨rfl, _, rfl, h0 (fun q => Int32.not_lt.mpr (of_decide_eq_true q.2).1 c8)⟩
          | exact ⟨rfl, _, rfl, h0 (fun q => by
              obtain ⟨j, hj, rfl⟩ := rg_t (by decide) q.2
              exact c13 (nI_le (b := 1) (by omega) (by decide)))⟩
          | skip
end RCD

