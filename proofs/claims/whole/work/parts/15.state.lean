/-! ===== State ===== -/
def tState (sh : Nat → Option zSh) (s : Nat) : Prop := sh s = some (.inl (6, [some (some (s + 1)), some (some (s + 83)), none, some (some (s + 84)), some (some (s + 87)), some (some (s + 90))])) ∧ tRows sh (s + 1) ∧ sh (s + 83) = some (.inr (0, 10, fNo)) ∧ tPairs sh (s + 84) 6 ∧ tPairs sh (s + 87) 10 ∧ tPairs sh (s + 90) 8
/-- how many rows, marks, seen, of the plan, of the book; the rows; what the marks tell -/
abbrev Ab : Type := (Nat × Nat × Nat × Nat × Nat) × (Nat → Nat → Nat) × (Nat → Nat)
abbrev aN (A : Ab) : Nat := A.1.1
abbrev aM (A : Ab) : Nat := A.1.2.1
abbrev aS (A : Ab) : Nat := A.1.2.2.1
abbrev aP (A : Ab) : Nat := A.1.2.2.2.1
abbrev aB (A : Ab) : Nat := A.1.2.2.2.2
abbrev aV (A : Ab) : Nat → Nat → Nat := A.2.1
abbrev aT (A : Ab) : Nat → Nat := A.2.2
/-- rows told by hand at a: n of them, as ga has them from z on -/
def rPairs (S : zSt) (a cap n z : Nat) (ga : Nat → Int32) : Prop := zi S a 0 = nI cap ∧ zi S a 3 = nI n ∧ ∀ i, i < n → za S (a + 1) i = ga (z + 2 * i) ∧ za S (a + 2) i = ga (z + 2 * i + 1)
/-- the State at s is A, with contents as in ga -/
def rState (S : zSt) (s : Nat) (A : Ab) (ga : Nat → Int32) : Prop := rRows S (s + 1) (aN A) (aV A) ∧ zi S s 2 = nI (aM A) ∧ (∀ i, i < aM A → za S (s + 83) i = nI (aT A i)) ∧ rPairs S (s + 84) 6 (aS A) 493 ga ∧ rPairs S (s + 87) 10 (aP A) 506 ga ∧ rPairs S (s + 90) 8 (aB A) 527 ga
/-- A is within its bounds, and ga has it; queries below qn -/
def gaOK (A : Ab) (ga : Nat → Int32) (qn : Nat) : Prop := (aN A ≤ 120 ∧ aM A ≤ 10 ∧ aS A ≤ 6 ∧ aP A ≤ 10 ∧ aB A ≤ 8) ∧ (ga 480 = nI (aN A) ∧ ga 481 = nI (aM A) ∧ ga 492 = nI (aS A) ∧ ga 505 = nI (aP A) ∧ ga 526 = nI (aB A)) ∧
  (∀ j, j < aN A → ∀ c, c < 4 → ga (4 * j + c) = nI (aV A j c) ∧ aV A j c < 16) ∧ (∀ i, i < aM A → ga (482 + i) = nI (aT A i) ∧ aT A i ≤ aN A) ∧ (∀ i k, i ≤ k → k < aM A → aT A i ≤ aT A k) ∧
  (∀ i, i < aS A → ga (493 + 2 * i + 1) = 0 ∨ ga (493 + 2 * i + 1) = 1) ∧ ∀ i, i < aB A → ∃ k, k < qn ∧ ga (527 + 2 * i) = nI k
theorem rPairs.fr {S S' : zSt} {a cap n z : Nat} {ga : Nat → Int32} {P : Nat → Prop} (h : rPairs S a cap n z ga) (hf : frS S P S') (ha : ¬ P a ∧ ¬ P (a + 1) ∧ ¬ P (a + 2)) : rPairs S' a cap n z ga := by
  refine ⟨(congrFun (hf a ha.1).1 0).trans h.1, (congrFun (hf a ha.1).1 3).trans h.2.1, fun i hi => ⟨?_, ?_⟩⟩
  · exact (congrFun (hf _ ha.2.1).2.2.1 i).trans (h.2.2 i hi).1
  · exact (congrFun (hf _ ha.2.2).2.2.1 i).trans (h.2.2 i hi).2
theorem rState.fr {S S' : zSt} {s : Nat} {A : Ab} {ga : Nat → Int32} {P : Nat → Prop} (h : rState S s A ga) (hf : frS S P S') (hs : ∀ b, s ≤ b → b < s + 93 → ¬ P b) : rState S' s A ga :=
  ⟨h.1.fr hf (fun b h1 h2 => hs b (by omega) (by omega)), (congrFun (hf s (hs s (by omega) (by omega))).1 2).trans h.2.1, fun i hi => (congrFun (hf _ (hs _ (by omega) (by omega))).2.2.1 i).trans (h.2.2.1 i hi),
    h.2.2.2.1.fr hf ⟨hs _ (by omega) (by omega), hs _ (by omega) (by omega), hs _ (by omega) (by omega)⟩, h.2.2.2.2.1.fr hf ⟨hs _ (by omega) (by omega), hs _ (by omega) (by omega), hs _ (by omega) (by omega)⟩, h.2.2.2.2.2.fr hf ⟨hs _ (by omega) (by omega), hs _ (by omega) (by omega), hs _ (by omega) (by omega)⟩⟩
def inState (s : Nat) : Nat → Prop := fun b => s ≤ b ∧ b < s + 93
/-- whether what is seen i-th is so by the query: column below bound -/
def sbB (A : Ab) (ga : Nat → Int32) (c b : Nat) : Nat → Bool := fun i => decide (0 ≤ ga (493 + 2 * i) ∧ ga (493 + 2 * i) < nI (aN A)) && (decide (aV A (ga (493 + 2 * i)).toNatClampNeg c < b) == decide (ga (493 + 2 * i + 1) ≠ 0))
def allB (p : Nat → Bool) (n : Nat) : Bool := decide (∀ i, i < n → p i = true)
/-- one row of the plan -/
def pStep (A : Ab) (x y : Int32) (r : Nat × (Nat → Nat → Nat)) : Nat × (Nat → Nat → Nat) := if x = 0 then (r.1 - 1, r.2) else if x = 1 then (if (0 ≤ y ∧ y < nI r.1) ∧ r.1 < 120 then (r.1 + 1, vPush r.2 r.1 (r.2 y.toNatClampNeg)) else r) else (if 0 ≤ y ∧ y < nI (aM A) then (min (aT A y.toNatClampNeg) r.1, r.2) else r)
def pRun (A : Ab) (ga : Nat → Int32) : Nat → Nat × (Nat → Nat → Nat)
  | 0 => (aN A, aV A)
  | k + 1 => pStep A (ga (506 + 2 * k)) (ga (506 + 2 * k + 1)) (pRun A ga k)
def okRV (r : Nat × (Nat → Nat → Nat)) : Prop := r.1 ≤ 120 ∧ ∀ j, j < r.1 → ∀ c, c < 4 → r.2 j c < 16
theorem clampLt {x : Int32} {n : Nat} (hn : n < 2 ^ 31) (h : 0 ≤ x ∧ x < nI n) : x.toNatClampNeg < n ∧ x = nI x.toNatClampNeg := by
  obtain ⟨j, hj, rfl⟩ := nI_of (Int32.not_lt.mpr h.1)
  rw [nI_clamp hj]
  exact ⟨(nI_ltI hj hn).mp h.2, rfl⟩
theorem pStep_ok {A : Ab} {x y : Int32} {r : Nat × (Nat → Nat → Nat)} (h : okRV r) : okRV (pStep A x y r) := by
  unfold pStep
  split
  · exact ⟨Nat.le_trans (Nat.sub_le _ _) h.1, fun j hj => h.2 j (Nat.lt_of_lt_of_le hj (Nat.sub_le _ _))⟩
  · split
    · split
      · next hc =>
        obtain ⟨h1, h2⟩ := hc
        refine ⟨by show r.1 + 1 ≤ 120; omega, fun j hj c hc => ?_⟩
        have hj' : j < r.1 + 1 := hj
        show (if j = r.1 then _ else _) < 16
        split
        · exact h.2 _ (clampLt (by omega) h1).1 c hc
        · exact h.2 j (by omega) c hc
      · exact h
    · split
      · exact ⟨Nat.le_trans (Nat.min_le_right _ _) h.1, fun j hj => h.2 j (Nat.lt_of_lt_of_le hj (Nat.min_le_right _ _))⟩
      · exact h
theorem pRun_ok {A : Ab} {ga : Nat → Int32} (h : okRV (aN A, aV A)) : ∀ k, okRV (pRun A ga k)
  | 0 => h
  | k + 1 => pStep_ok (pRun_ok h k)
theorem z_gen {G : zG} {M : zM} {R : Room} {F : zFin} {cn sn pc : Nat} {lv : List (Option Value)} {st : List Value} {sz : Nat} {sh : Nat → Option zSh} {S : zSt} (h : ∀ S1 : zSt, S1 = S → zW G M R F cn sn pc lv st (zhp sh S1) sz) : zW G M R F cn sn pc lv st (zhp sh S) sz := h S rfl
theorem nI_nlt_of {a b : Nat} (ha : a < 2 ^ 31) (hb : b < 2 ^ 31) (h : nI b ≤ nI a) : b ≤ a := (nI_leI hb ha).mp h
section STATE
variable {G : zG} {sh : Nat → Option zSh} {S : zSt} {s o r n c k i qn : Nat} {v : Nat → Nat → Nat} {A : Ab} {ga : Nat → Int32}
theorem C_State_hasMark {x : Int32} (hT : tState sh s) (hR : zi S s 2 = nI (aM A)) : zD G m_State_hasMark 1 sh [.ref s, .int x] S (some (.int (zo (decide (0 ≤ x ∧ x < nI (aM A)))))) S := by
  obtain ⟨t1, t2⟩ := hT
  refine s_methD 0 ⟨p_State, rfl, Nat.le_of_ble_eq_true rfl⟩ rfl (fun sz => ?_)
  refine z_iload_n dX6_hasMark_0 rfl ?_
  refine z_if_lt 16 dX6_hasMark_1 (by decide) (fun c1 => ?_) (fun c1 => ?_)
  · rw [decide_eq_false (show ¬ (0 ≤ x ∧ x < nI (aM A)) from fun q => Int32.not_lt.mpr q.1 c1)]
    refine z_iconst 0 dX6_hasMark_16 rfl ?_
    refine z_ireturn dX6_hasMark_17 rfl rfl ⟨Nat.le_refl _, Nat.le_refl _⟩ ?_
    exact ⟨rfl, rfl, rfl⟩
  · refine z_iload_n dX6_hasMark_4 rfl ?_
    refine z_aload_n dX6_hasMark_5 rfl ?_
    refine s_geti f_State_22 dX6_hasMark_6 (by assumption) rfl ?_
    refine z_icmp_ge 16 dX6_hasMark_9 (by decide) (fun c9 => ?_) (fun c9 => ?_)
    · rw [show zi S s 2 = nI (aM A) from hR] at c9
      rw [decide_eq_false (show ¬ (0 ≤ x ∧ x < nI (aM A)) from fun q => Int32.not_lt.mpr c9 q.2)]
      refine z_iconst 0 dX6_hasMark_16 rfl ?_
      refine z_ireturn dX6_hasMark_17 rfl rfl ⟨Nat.le_refl _, Nat.le_refl _⟩ ?_
      exact ⟨rfl, rfl, rfl⟩
    · rw [show zi S s 2 = nI (aM A) from hR] at c9
      rw [decide_eq_true (show (0 ≤ x ∧ x < nI (aM A)) from ⟨Int32.not_lt.mp c1, Int32.not_le.mp c9⟩)]
      refine z_iconst 1 dX6_hasMark_12 rfl ?_
      refine z_goto 17 dX6_hasMark_13 (by decide) ?_
      refine z_ireturn dX6_hasMark_17 rfl rfl ⟨Nat.le_refl _, Nat.le_refl _⟩ ?_
      exact ⟨rfl, rfl, rfl⟩
theorem C_State_become (hT : tState sh s) (hO : tState sh o) (hso : s + 93 ≤ o ∨ o + 93 ≤ s) (hcap : zi S (s + 84) 0 = nI 6 ∧ zi S (s + 87) 0 = nI 10 ∧ zi S (s + 90) 0 = nI 8) (hR : rState S o A ga) (hb : aM A ≤ 10 ∧ aS A ≤ 6 ∧ aP A ≤ 10 ∧ aB A ≤ 8) : zN G m_State_become 3 sh [.ref s, .ref o] S none (fun S' => frS S (inState s) S' ∧ rState S' s A ga) := by
  obtain ⟨t1, t2, t3, t4, t5, t6⟩ := hT
  obtain ⟨o1, o2, o3, o4, o5, o6⟩ := hO
  have hok : zCopyOk 10 10 0 0 10 := by unfold zCopyOk; decide
  refine s_meth 0 ⟨p_State, rfl, Nat.le_of_ble_eq_true rfl⟩ rfl (fun sz => ?_)
  refine z_aload_n dX6_become_0 rfl ?_
  refine s_getr f_State_12 dX6_become_1 t1 rfl ?_
  refine z_aload_n dX6_become_4 rfl ?_
  refine s_getr f_State_12 dX6_become_5 o1 rfl ?_
  refine n_callV0 l_State_41 (C_Rows_become t2 o2 (by omega) hR.1) t2.1 dX6_become_8 rfl rfl (Nat.le_of_ble_eq_true rfl) ⟨⟨by decide, by decide⟩, by decide, by decide⟩ (fun S8 q8 => ?_)
  refine z_aload_n dX6_become_11 rfl ?_
  refine s_getr f_State_18 dX6_become_12 o1 rfl ?_
  refine z_iconst 0 dX6_become_15 rfl ?_
  refine z_aload_n dX6_become_16 rfl ?_
  refine s_getr f_State_18 dX6_become_17 t1 rfl ?_
  refine z_iconst 0 dX6_become_20 rfl ?_
  refine z_bipush 10 dX6_become_21 (by decide) ?_
  refine s_copyi j_State_45 dX6_become_23 o3 t3 hok ⟨by decide, Nat.le_of_ble_eq_true rfl⟩ ?_
  refine z_aload_n dX6_become_26 rfl ?_
  refine z_aload_n dX6_become_27 rfl ?_
  refine s_geti f_State_22 dX6_become_28 o1 rfl ?_
  refine s_puti f_State_22 dX6_become_31 t1 rfl ⟨rfl, rfl⟩ ?_
  refine z_gen (fun S34 e34 => ?_)
  have f0 : frS S (inState s) S8 := q8.1.weaken (fun b hb => by unfold inRows at hb; unfold inState; omega)
  have f1 : frS S8 (fun b => b = s ∨ b = s + 83) S34 := by
    subst e34
    exact fun b hb => ⟨zup_off (fun e => hb (Or.inl e)), rfl, zrow_off (fun e => hb (Or.inr e)), rfl⟩
  have f2 : frS S (inState s) S34 := f0.trans (f1.weaken (fun b hb => by unfold inState; omega))
  have m8 := hR.fr f0 (fun b h1 h2 => by unfold inState; omega)
  have p2 : zi S34 s 2 = nI (aM A) := by
    subst e34
    exact zi_si.trans m8.2.1
  have p3 : ∀ i, i < aM A → za S34 (s + 83) i = nI (aT A i) := fun i hi => by
    subst e34
    show zrow S8.2.2.1 (s + 83) _ (s + 83) i = _
    rw [zrow_on]
    exact (cpy_in (by have := hb.1; show i < 10; omega)).trans (m8.2.2.1 i hi)
  have p1 : rRows S34 (s + 1) (aN A) (aV A) := q8.2.fr f1 (fun b h1 h2 => by omega)
  have g1 := hR.fr f2 (fun b h1 h2 => by unfold inState; omega)
  have k1 : zi S34 (s + 84) 0 = nI 6 := (congrFun (f1 _ (by omega)).1 0).trans ((congrFun (q8.1 _ (by unfold inRows; omega)).1 0).trans hcap.1)
  have k2 : zi S34 (s + 87) 0 = nI 10 := (congrFun (f1 _ (by omega)).1 0).trans ((congrFun (q8.1 _ (by unfold inRows; omega)).1 0).trans hcap.2.1)
  have k3 : zi S34 (s + 90) 0 = nI 8 := (congrFun (f1 _ (by omega)).1 0).trans ((congrFun (q8.1 _ (by unfold inRows; omega)).1 0).trans hcap.2.2)
  clear e34
  refine z_aload_n dX6_become_34 rfl ?_
  refine s_getr f_State_31 dX6_become_35 t1 rfl ?_
  refine z_aload_n dX6_become_38 rfl ?_
  refine s_getr f_State_31 dX6_become_39 o1 rfl ?_
  refine n_callV0 l_State_51 (C_Pairs_become t4 o4 (by omega) k1 (by decide)) t4.1 dX6_become_42 rfl rfl (Nat.le_of_ble_eq_true rfl) ⟨⟨by decide, by decide⟩, by decide, by decide⟩ (fun S42 q42 => ?_)
  have g2 := g1.fr q42.1 (fun b h1 h2 => by omega)
  refine z_aload_n dX6_become_45 rfl ?_
  refine s_getr f_State_35 dX6_become_46 t1 rfl ?_
  refine z_aload_n dX6_become_49 rfl ?_
  refine s_getr f_State_35 dX6_become_50 o1 rfl ?_
  refine n_callV0 l_State_51 (C_Pairs_become t5 o5 (by omega) ((congrFun (q42.1 (s + 87) (by omega)).1 0).trans k2) (by decide)) t5.1 dX6_become_53 rfl rfl (Nat.le_of_ble_eq_true rfl) ⟨⟨by decide, by decide⟩, by decide, by decide⟩ (fun S53 q53 => ?_)
  have g3 := g2.fr q53.1 (fun b h1 h2 => by omega)
  refine z_aload_n dX6_become_56 rfl ?_
  refine s_getr f_State_38 dX6_become_57 t1 rfl ?_
  refine z_aload_n dX6_become_60 rfl ?_
  refine s_getr f_State_38 dX6_become_61 o1 rfl ?_
  refine n_callV0 l_State_51 (C_Pairs_become t6 o6 (by omega) ((congrFun (q53.1 (s + 90) (by omega)).1 0).trans ((congrFun (q42.1 (s + 90) (by omega)).1 0).trans k3)) (by decide)) t6.1 dX6_become_64 rfl rfl (Nat.le_of_ble_eq_true rfl) ⟨⟨by decide, by decide⟩, by decide, by decide⟩ (fun S64 q64 => ?_)
  refine z_return dX6_become_67 rfl ⟨Nat.le_refl _, Nat.le_refl _⟩ ?_
  have w42 : frS S34 (fun b => s + 84 ≤ b ∧ b < s + 93) S42 := q42.1.weaken (fun b hb => by omega)
  have w53 : frS S42 (fun b => s + 84 ≤ b ∧ b < s + 93) S53 := q53.1.weaken (fun b hb => by omega)
  have w64 : frS S53 (fun b => s + 84 ≤ b ∧ b < s + 93) S64 := q64.1.weaken (fun b hb => by omega)
  have v53 : frS S42 (fun b => s + 87 ≤ b ∧ b < s + 93) S53 := q53.1.weaken (fun b hb => by omega)
  have v64 : frS S53 (fun b => s + 87 ≤ b ∧ b < s + 93) S64 := q64.1.weaken (fun b hb => by omega)
  have wa := (w42.trans w53).trans w64
  have r4 : rPairs S42 (s + 84) 6 (aS A) 493 ga := ⟨q42.2.1.trans k1, q42.2.2.1.trans g1.2.2.2.1.2.1, fun i hi => ⟨(q42.2.2.2 i (by have := hb.2.1; omega)).1.trans (g1.2.2.2.1.2.2 i hi).1, (q42.2.2.2 i (by have := hb.2.1; omega)).2.trans (g1.2.2.2.1.2.2 i hi).2⟩⟩
  have r5 : rPairs S53 (s + 87) 10 (aP A) 506 ga := ⟨q53.2.1.trans ((congrFun (q42.1 (s + 87) (by omega)).1 0).trans k2), q53.2.2.1.trans g2.2.2.2.2.1.2.1, fun i hi => ⟨(q53.2.2.2 i (by have := hb.2.2.1; omega)).1.trans (g2.2.2.2.2.1.2.2 i hi).1, (q53.2.2.2 i (by have := hb.2.2.1; omega)).2.trans (g2.2.2.2.2.1.2.2 i hi).2⟩⟩
  have r6 : rPairs S64 (s + 90) 8 (aB A) 527 ga := ⟨q64.2.1.trans ((congrFun (q53.1 (s + 90) (by omega)).1 0).trans ((congrFun (q42.1 (s + 90) (by omega)).1 0).trans k3)), q64.2.2.1.trans g3.2.2.2.2.2.2.1, fun i hi => ⟨(q64.2.2.2 i (by have := hb.2.2.2; omega)).1.trans (g3.2.2.2.2.2.2.2 i hi).1, (q64.2.2.2 i (by have := hb.2.2.2; omega)).2.trans (g3.2.2.2.2.2.2.2 i hi).2⟩⟩
  refine ⟨rfl, _, rfl, rfl, f2.trans (wa.weaken (fun b hb => by unfold inState; omega)), p1.fr wa (fun b h1 h2 => by omega), (congrFun (wa s (by omega)).1 2).trans p2, fun i hi => (congrFun (wa _ (by omega)).2.2.1 i).trans (p3 i hi), r4.fr (v53.trans v64) (by omega), r5.fr q64.1 (by omega), r6⟩
theorem allB_f {p : Nat → Bool} {n i : Nat} (hi : i < n) (h : p i = false) : allB p n = false := decide_eq_false (fun q => by rw [q i hi] at h; cases h)
theorem allB_t {p : Nat → Bool} {n : Nat} (h : ∀ i, i < n → p i = true) : allB p n = true := decide_eq_true h
theorem C_State_isSeenBelow {b : Nat} (hT : tState sh s) (hR : rState S s A ga) (hG : gaOK A ga qn) (hc : c < 4) (hb : b < 2 ^ 31) : zD G m_State_isSeenBelow 3 sh [.ref s, .int (nI c), .int (nI b)] S (some (.int (zo (allB (sbB A ga c b) (aS A))))) S := by
  obtain ⟨t1, t2, t3, t4, t5, t6⟩ := hT
  obtain ⟨⟨b1, b2, b3, b4, b5⟩, -, hv, -, -, hfl, -⟩ := hG
  obtain ⟨r1, r2, r3, r4, r5, r6⟩ := hR
  refine s_methD 3 ⟨p_State, rfl, Nat.le_of_ble_eq_true rfl⟩ rfl (fun sz => ?_)
  have loop : ∀ d i z1 z2, aS A - i = d → i ≤ aS A → (∀ k, k < i → sbB A ga c b k = true) → zW G m_State_isSeenBelow (zRm 3 0 0) (zFm G (zQe (some (.int (zo (allB (sbB A ga c b) (aS A))))) (zhp sh S) sz) 0 0) 0 0 2 [some (.ref s), some (.int (nI c)), some (.int (nI b)), some (.int (nI i)), z1, z2] [] (zhp sh S) sz := by
    intro d
    induction d with
    | zero =>
      intro i z1 z2 h1 h2 h3
      have hi : i = aS A := by omega
      subst hi
      refine z_iload_n dX6_isSeenBelow_2 rfl ?_
      refine z_aload_n dX6_isSeenBelow_3 rfl ?_
      refine s_getr f_State_31 dX6_isSeenBelow_4 (by assumption) rfl ?_
      refine s_geti f_State_54 dX6_isSeenBelow_7 t4.1 rfl ?_
      refine z_icmp_ge 89 dX6_isSeenBelow_10 (by decide) (fun c10 => ?_) (fun c10 => ?_)
      · refine z_iconst 1 dX6_isSeenBelow_89 rfl ?_
        refine z_ireturn dX6_isSeenBelow_90 rfl rfl ⟨Nat.le_refl _, Nat.le_refl _⟩ ?_
        rw [allB_t h3]
        exact ⟨rfl, rfl, rfl⟩
      · rw [show zi S (s + 84) 3 = nI (aS A) from r4.2.1] at c10
        exact absurd (nI_le (Nat.le_refl _) (by omega)) c10
    | succ d ih =>
      intro i z1 z2 h1 h2 h3
      have cli : (nI i).toNatClampNeg = i := nI_clamp (by omega)
      have hin : vp_in (nI i) 6 := vp_in_nI (by omega) (by decide)
      obtain ⟨e1, e2⟩ := r4.2.2 i (by omega)
      refine z_iload_n dX6_isSeenBelow_2 rfl ?_
      refine z_aload_n dX6_isSeenBelow_3 rfl ?_
      refine s_getr f_State_31 dX6_isSeenBelow_4 (by assumption) rfl ?_
      refine s_geti f_State_54 dX6_isSeenBelow_7 t4.1 rfl ?_
      refine z_icmp_ge 89 dX6_isSeenBelow_10 (by decide) (fun c10 => ?_) (fun c10 => ?_)
      · rw [show zi S (s + 84) 3 = nI (aS A) from r4.2.1] at c10
        exact absurd c10 (nI_ge (by omega) (by omega))
      · refine z_aload_n dX6_isSeenBelow_13 rfl ?_
        refine s_getr f_State_31 dX6_isSeenBelow_14 (by assumption) rfl ?_
        refine s_getr f_State_57 dX6_isSeenBelow_17 t4.1 rfl ?_
        refine z_iload_n dX6_isSeenBelow_20 rfl ?_
        refine s_iald dX6_isSeenBelow_21 t4.2.1 hin ?_
        rw [cli, e1]
        refine z_istore (lv' := [_, _, _, _, _, _]) dX6_isSeenBelow_22 (by decide) rfl ?_
        refine z_aload_n dX6_isSeenBelow_24 rfl ?_
        refine s_getr f_State_12 dX6_isSeenBelow_25 (by assumption) rfl ?_
        refine z_iload dX6_isSeenBelow_28 rfl ?_
        refine s_callV1 l_State_60 (C_Rows_hasRow t2 r1.1 (by omega)) t2.1 dX6_isSeenBelow_30 rfl rfl (Nat.le_of_ble_eq_true rfl) ⟨⟨by decide, by decide⟩, by decide, by decide⟩ ?_
        refine z_if_ne 38 dX6_isSeenBelow_33 (by decide) (fun c33 => ?_) (fun c33 => ?_)
        · have ht := of_decide_eq_true (zo_ne0.mp c33)
          obtain ⟨g1, g2⟩ := clampLt (by omega) ht
          have hs : sbB A ga c b i = (decide (aV A (ga (493 + 2 * i)).toNatClampNeg c < b) == decide (ga (493 + 2 * i + 1) ≠ 0)) := by unfold sbB; rw [decide_eq_true ht]; rfl
          generalize hx : (ga (493 + 2 * i)).toNatClampNeg = x at g1 g2 hs
          rw [g2]
          refine z_aload_n dX6_isSeenBelow_38 rfl ?_
          refine s_getr f_State_12 dX6_isSeenBelow_39 (by assumption) rfl ?_
          refine z_iload dX6_isSeenBelow_42 rfl ?_
          refine z_iload_n dX6_isSeenBelow_44 rfl ?_
          refine s_callV1 l_State_64 (C_Rows_valueOf t2 r1 b1 g1 hc (hv x g1 c hc).2) t2.1 dX6_isSeenBelow_45 rfl rfl (Nat.le_of_ble_eq_true rfl) ⟨⟨by decide, by decide⟩, by decide, by decide⟩ ?_
          refine z_iload_n dX6_isSeenBelow_48 rfl ?_
          refine z_icmp_ge 56 dX6_isSeenBelow_49 (by decide) (fun c49 => ?_) (fun c49 => ?_)
          · have hd := nI_nlt_of (by have := (hv x g1 c hc).2; omega) hb c49
            rw [decide_eq_false (show ¬ aV A x c < b by omega)] at hs
            refine z_iconst 0 dX6_isSeenBelow_56 rfl ?_
            refine z_istore (lv' := [_, _, _, _, _, _]) dX6_isSeenBelow_57 (by decide) rfl ?_
            refine z_iload dX6_isSeenBelow_59 rfl ?_
            refine z_aload_n dX6_isSeenBelow_61 rfl ?_
            refine s_getr f_State_31 dX6_isSeenBelow_62 (by assumption) rfl ?_
            refine s_getr f_State_68 dX6_isSeenBelow_65 t4.1 rfl ?_
            refine z_iload_n dX6_isSeenBelow_68 rfl ?_
            refine s_iald dX6_isSeenBelow_69 t4.2.2 hin ?_
            rw [cli, e2]
            refine z_if_eq 77 dX6_isSeenBelow_70 (by decide) (fun c70 => ?_) (fun c70 => ?_)
            · rw [decide_eq_false (show ¬ ga (493 + 2 * i + 1) ≠ 0 from fun q => q c70)] at hs
              refine z_iconst 0 dX6_isSeenBelow_77 rfl ?_
              refine z_icmp_eq 83 dX6_isSeenBelow_78 (by decide) (fun c78 => ?_) (fun c78 => ?_)
              · first
                  | exact absurd c78 (by decide)
                  | (refine z_iinc (lv' := [_, _, _, _, _, _]) 1 dX6_isSeenBelow_83 rfl (by decide) rfl rfl ?_
                     refine z_goto 2 dX6_isSeenBelow_86 (by decide) ?_
                     rw [nI_1]
                     exact ih (i + 1) _ _ (by omega) (by omega) (fun k hk => if e : k = i then by rw [e]; exact hs else h3 k (by omega)))
              · first
                  | exact absurd rfl c78
                  | (refine z_iconst 0 dX6_isSeenBelow_81 rfl ?_
                     refine z_ireturn dX6_isSeenBelow_82 rfl rfl ⟨Nat.le_refl _, Nat.le_refl _⟩ ?_
                     rw [allB_f (i := i) (by omega) hs]
                     exact ⟨rfl, rfl, rfl⟩)
            · rw [decide_eq_true (show ga (493 + 2 * i + 1) ≠ 0 from c70)] at hs
              refine z_iconst 1 dX6_isSeenBelow_73 rfl ?_
              refine z_goto 78 dX6_isSeenBelow_74 (by decide) ?_
              refine z_icmp_eq 83 dX6_isSeenBelow_78 (by decide) (fun c78 => ?_) (fun c78 => ?_)
              · first
                  | exact absurd c78 (by decide)
                  | (refine z_iinc (lv' := [_, _, _, _, _, _]) 1 dX6_isSeenBelow_83 rfl (by decide) rfl rfl ?_
                     refine z_goto 2 dX6_isSeenBelow_86 (by decide) ?_
                     rw [nI_1]
                     exact ih (i + 1) _ _ (by omega) (by omega) (fun k hk => if e : k = i then by rw [e]; exact hs else h3 k (by omega)))
              · first
                  | exact absurd rfl c78
                  | (refine z_iconst 0 dX6_isSeenBelow_81 rfl ?_
                     refine z_ireturn dX6_isSeenBelow_82 rfl rfl ⟨Nat.le_refl _, Nat.le_refl _⟩ ?_
                     rw [allB_f (i := i) (by omega) hs]
                     exact ⟨rfl, rfl, rfl⟩)
          · have hd : aV A x c < b := by
              rcases Nat.lt_or_ge (aV A x c) b with q | q
              · exact q
              · exact absurd (nI_le q (by have := (hv x g1 c hc).2; omega)) c49
            rw [decide_eq_true hd] at hs
            refine z_iconst 1 dX6_isSeenBelow_52 rfl ?_
            refine z_goto 57 dX6_isSeenBelow_53 (by decide) ?_
            refine z_istore (lv' := [_, _, _, _, _, _]) dX6_isSeenBelow_57 (by decide) rfl ?_
            refine z_iload dX6_isSeenBelow_59 rfl ?_
            refine z_aload_n dX6_isSeenBelow_61 rfl ?_
            refine s_getr f_State_31 dX6_isSeenBelow_62 (by assumption) rfl ?_
            refine s_getr f_State_68 dX6_isSeenBelow_65 t4.1 rfl ?_
            refine z_iload_n dX6_isSeenBelow_68 rfl ?_
            refine s_iald dX6_isSeenBelow_69 t4.2.2 hin ?_
            rw [cli, e2]
            refine z_if_eq 77 dX6_isSeenBelow_70 (by decide) (fun c70 => ?_) (fun c70 => ?_)
            · rw [decide_eq_false (show ¬ ga (493 + 2 * i + 1) ≠ 0 from fun q => q c70)] at hs
              refine z_iconst 0 dX6_isSeenBelow_77 rfl ?_
              refine z_icmp_eq 83 dX6_isSeenBelow_78 (by decide) (fun c78 => ?_) (fun c78 => ?_)
              · first
                  | exact absurd c78 (by decide)
                  | (refine z_iinc (lv' := [_, _, _, _, _, _]) 1 dX6_isSeenBelow_83 rfl (by decide) rfl rfl ?_
                     refine z_goto 2 dX6_isSeenBelow_86 (by decide) ?_
                     rw [nI_1]
                     exact ih (i + 1) _ _ (by omega) (by omega) (fun k hk => if e : k = i then by rw [e]; exact hs else h3 k (by omega)))
              · first
                  | exact absurd rfl c78
                  | (refine z_iconst 0 dX6_isSeenBelow_81 rfl ?_
                     refine z_ireturn dX6_isSeenBelow_82 rfl rfl ⟨Nat.le_refl _, Nat.le_refl _⟩ ?_
                     rw [allB_f (i := i) (by omega) hs]
                     exact ⟨rfl, rfl, rfl⟩)
            · rw [decide_eq_true (show ga (493 + 2 * i + 1) ≠ 0 from c70)] at hs
              refine z_iconst 1 dX6_isSeenBelow_73 rfl ?_
              refine z_goto 78 dX6_isSeenBelow_74 (by decide) ?_
              refine z_icmp_eq 83 dX6_isSeenBelow_78 (by decide) (fun c78 => ?_) (fun c78 => ?_)
              · first
                  | exact absurd c78 (by decide)
                  | (refine z_iinc (lv' := [_, _, _, _, _, _]) 1 dX6_isSeenBelow_83 rfl (by decide) rfl rfl ?_
                     refine z_goto 2 dX6_isSeenBelow_86 (by decide) ?_
                     rw [nI_1]
                     exact ih (i + 1) _ _ (by omega) (by omega) (fun k hk => if e : k = i then by rw [e]; exact hs else h3 k (by omega)))
              · first
                  | exact absurd rfl c78
                  | (refine z_iconst 0 dX6_isSeenBelow_81 rfl ?_
                     refine z_ireturn dX6_isSeenBelow_82 rfl rfl ⟨Nat.le_refl _, Nat.le_refl _⟩ ?_
                     rw [allB_f (i := i) (by omega) hs]
                     exact ⟨rfl, rfl, rfl⟩)
        · have hf := zo_eq0.mp c33
          rw [allB_f (i := i) (by omega) (show sbB A ga c b i = false by unfold sbB; rw [hf]; rfl)]
          refine z_iconst 0 dX6_isSeenBelow_36 rfl ?_
          refine z_ireturn dX6_isSeenBelow_37 rfl rfl ⟨Nat.le_refl _, Nat.le_refl _⟩ ?_
          exact ⟨rfl, rfl, rfl⟩
  refine z_iconst 0 dX6_isSeenBelow_0 rfl ?_
  refine z_istore_n (lv' := [_, _, _, _, _, _]) dX6_isSeenBelow_1 (by decide) rfl ?_
  exact loop (aS A) 0 _ _ rfl (Nat.zero_le _) (fun k hk => absurd hk (Nat.not_lt_zero _))
theorem C_State_tryStep {x y : Int32} {m : Nat} (hT : tState sh s) (hRT : tRows sh r) (hd : s + 93 ≤ r ∨ r + 82 ≤ s) (hR : rState S s A ga) (hG : gaOK A ga qn) (hr : rRows S r n v) (hok : okRV (n, v)) : zN G m_State_tryStep 5 sh [.ref s, .int x, .int y, .ref r] S none (fun S' => frS S (inRows r) S' ∧ rRows S' r (pStep A x y (n, v)).1 (pStep A x y (n, v)).2) := by
  obtain ⟨t1, t2, t3, t4, t5, t6⟩ := id hT
  obtain ⟨⟨b1, b2, b3, b4, b5⟩, -, -, hm, -, -, -⟩ := hG
  have hn : n ≤ 120 := hok.1
  refine s_meth 0 ⟨p_State, rfl, Nat.le_of_ble_eq_true rfl⟩ rfl (fun sz => ?_)
  have fin : ∀ S', frS S (inRows r) S' → rRows S' r (pStep A x y (n, v)).1 (pStep A x y (n, v)).2 → zW G m_State_tryStep (zRm 5 0 0) (zFm G (zP sh sz (fun r' S' => r' = none ∧ frS S (inRows r) S' ∧ rRows S' r (pStep A x y (n, v)).1 (pStep A x y (n, v)).2)) 0 0) 0 0 70 [some (.ref s), some (.int x), some (.int y), some (.ref r)] [] (zhp sh S') sz := by
    intro S' h1 h2
    refine z_return dX6_tryStep_70 rfl ⟨Nat.le_refl _, Nat.le_refl _⟩ ?_
    exact ⟨rfl, _, rfl, rfl, h1, h2⟩
  refine z_iload_n dX6_tryStep_0 rfl ?_
  refine z_if_ne 24 dX6_tryStep_1 (by decide) (fun c1 => ?_) (fun c1 => ?_)
  · refine z_iload_n dX6_tryStep_24 rfl ?_
    refine z_iconst 1 dX6_tryStep_25 rfl ?_
    refine z_icmp_ne 52 dX6_tryStep_26 (by decide) (fun c26 => ?_) (fun c26 => ?_)
    · have e2 : pStep A x y (n, v) = (if 0 ≤ y ∧ y < nI (aM A) then (min (aT A y.toNatClampNeg) n, v) else (n, v)) := by unfold pStep; rw [if_neg c1, if_neg c26]
      refine z_aload_n dX6_tryStep_52 rfl ?_
      refine z_iload_n dX6_tryStep_53 rfl ?_
      refine s_callV1 l_State_86 (C_State_hasMark hT hR.2.1) t1 dX6_tryStep_54 rfl rfl (Nat.le_of_ble_eq_true rfl) ⟨⟨by decide, by decide⟩, by decide, by decide⟩ ?_
      refine z_if_eq 70 dX6_tryStep_57 (by decide) (fun c57 => ?_) (fun c57 => ?_)
      · have h1 := of_decide_eq_false (zo_eq0.mp c57)
        rw [if_neg h1] at e2
        first
          | exact fin _ q18.1 (by rw [e0]; have := q18.2; rw [Nat.min_eq_left (by omega)] at this; exact this)
          | exact fin _ q46.1 (by rw [e1]; exact q46.2)
          | exact fin _ q67.1 (by rw [e2]; exact q67.2)
          | exact fin _ frS.rf (by rw [e0]; have e9 : n - 1 = n := (by omega); rw [e9]; exact hr)
          | exact fin _ frS.rf (by rw [e1, if_neg (fun q => h1 q.1)]; exact hr)
          | exact fin _ frS.rf (by rw [e1, if_neg (fun q => by omega)]; exact hr)
          | exact fin _ frS.rf (by rw [e2]; exact hr)
          | skip
      · have h1 := of_decide_eq_true (zo_ne0.mp c57)
        rw [if_pos h1] at e2
        obtain ⟨g1, g2⟩ := clampLt (by omega) h1
        generalize hz : y.toNatClampNeg = z at g1 g2 e2
        subst g2
        refine z_aload_n dX6_tryStep_60 rfl ?_
        refine z_aload_n dX6_tryStep_61 rfl ?_
        refine s_getr f_State_18 dX6_tryStep_62 t1 rfl ?_
        refine z_iload_n dX6_tryStep_65 rfl ?_
        refine s_iald dX6_tryStep_66 t3 (vp_in_nI (by omega) (by decide)) ?_
        rw [nI_clamp (by omega), hR.2.2.1 z g1]
        refine n_callV0 l_State_76 (C_Rows_cutTo hRT hr (by omega) (show aT A z ≤ 128 by have := (hm z g1).2; omega)) hRT.1 dX6_tryStep_67 rfl rfl (Nat.le_of_ble_eq_true rfl) ⟨⟨by decide, by decide⟩, by decide, by decide⟩ (fun S67 q67 => ?_)
        first
          | exact fin _ q18.1 (by rw [e0]; have := q18.2; rw [Nat.min_eq_left (by omega)] at this; exact this)
          | exact fin _ q46.1 (by rw [e1]; exact q46.2)
          | exact fin _ q67.1 (by rw [e2]; exact q67.2)
          | exact fin _ frS.rf (by rw [e0]; have e9 : n - 1 = n := (by omega); rw [e9]; exact hr)
          | exact fin _ frS.rf (by rw [e1, if_neg (fun q => h1 q.1)]; exact hr)
          | exact fin _ frS.rf (by rw [e1, if_neg (fun q => by omega)]; exact hr)
          | exact fin _ frS.rf (by rw [e2]; exact hr)
          | skip
    · have e1 : pStep A x y (n, v) = (if (0 ≤ y ∧ y < nI n) ∧ n < 120 then (n + 1, vPush v n (v y.toNatClampNeg)) else (n, v)) := by unfold pStep; rw [if_neg c1, if_pos c26]
      refine z_aload_n dX6_tryStep_29 rfl ?_
      refine z_iload_n dX6_tryStep_30 rfl ?_
      refine s_callV1 l_State_60 (C_Rows_hasRow hRT hr.1 (by omega)) hRT.1 dX6_tryStep_31 rfl rfl (Nat.le_of_ble_eq_true rfl) ⟨⟨by decide, by decide⟩, by decide, by decide⟩ ?_
      refine z_if_eq 70 dX6_tryStep_34 (by decide) (fun c34 => ?_) (fun c34 => ?_)
      · have h1 := of_decide_eq_false (zo_eq0.mp c34)
        first
          | exact fin _ q18.1 (by rw [e0]; have := q18.2; rw [Nat.min_eq_left (by omega)] at this; exact this)
          | exact fin _ q46.1 (by rw [e1]; exact q46.2)
          | exact fin _ q67.1 (by rw [e2]; exact q67.2)
          | exact fin _ frS.rf (by rw [e0]; have e9 : n - 1 = n := (by omega); rw [e9]; exact hr)
          | exact fin _ frS.rf (by rw [e1, if_neg (fun q => h1 q.1)]; exact hr)
          | exact fin _ frS.rf (by rw [e1, if_neg (fun q => by omega)]; exact hr)
          | exact fin _ frS.rf (by rw [e2]; exact hr)
          | skip
      · have h1 := of_decide_eq_true (zo_ne0.mp c34)
        obtain ⟨g1, g2⟩ := clampLt (by omega) h1
        refine z_aload_n dX6_tryStep_37 rfl ?_
        refine s_callV1 l_State_79 (C_Rows_isFull hRT hr.1 (by omega)) hRT.1 dX6_tryStep_38 rfl rfl (Nat.le_of_ble_eq_true rfl) ⟨⟨by decide, by decide⟩, by decide, by decide⟩ ?_
        refine z_if_ne 70 dX6_tryStep_41 (by decide) (fun c41 => ?_) (fun c41 => ?_)
        · have h2 := of_decide_eq_true (zo_ne0.mp c41)
          first
            | exact fin _ q18.1 (by rw [e0]; have := q18.2; rw [Nat.min_eq_left (by omega)] at this; exact this)
            | exact fin _ q46.1 (by rw [e1]; exact q46.2)
            | exact fin _ q67.1 (by rw [e2]; exact q67.2)
            | exact fin _ frS.rf (by rw [e0]; have e9 : n - 1 = n := (by omega); rw [e9]; exact hr)
            | exact fin _ frS.rf (by rw [e1, if_neg (fun q => h1 q.1)]; exact hr)
            | exact fin _ frS.rf (by rw [e1, if_neg (fun q => by omega)]; exact hr)
            | exact fin _ frS.rf (by rw [e2]; exact hr)
            | skip
        · have h2 := of_decide_eq_false (zo_eq0.mp c41)
          rw [if_pos ⟨h1, by omega⟩] at e1
          generalize hz : y.toNatClampNeg = z at g1 g2 e1
          subst g2
          refine z_aload_n dX6_tryStep_44 rfl ?_
          refine z_iload_n dX6_tryStep_45 rfl ?_
          refine n_callV0 l_State_83 (C_Rows_appendLike hRT hr (by omega) g1 (fun c hc => hok.2 z g1 c hc)) hRT.1 dX6_tryStep_46 rfl rfl (Nat.le_of_ble_eq_true rfl) ⟨⟨by decide, by decide⟩, by decide, by decide⟩ (fun S46 q46 => ?_)
          refine z_goto 70 dX6_tryStep_49 (by decide) ?_
          first
            | exact fin _ q18.1 (by rw [e0]; have := q18.2; rw [Nat.min_eq_left (by omega)] at this; exact this)
            | exact fin _ q46.1 (by rw [e1]; exact q46.2)
            | exact fin _ q67.1 (by rw [e2]; exact q67.2)
            | exact fin _ frS.rf (by rw [e0]; have e9 : n - 1 = n := (by omega); rw [e9]; exact hr)
            | exact fin _ frS.rf (by rw [e1, if_neg (fun q => h1 q.1)]; exact hr)
            | exact fin _ frS.rf (by rw [e1, if_neg (fun q => by omega)]; exact hr)
            | exact fin _ frS.rf (by rw [e2]; exact hr)
            | skip
  · have e0 : pStep A x y (n, v) = (n - 1, v) := by unfold pStep; rw [if_pos c1]
    refine z_aload_n dX6_tryStep_4 rfl ?_
    refine s_geti f_State_75 dX6_tryStep_5 hRT.1 rfl ?_
    refine z_if_le 70 dX6_tryStep_8 (by decide) (fun c8 => ?_) (fun c8 => ?_)
    · rw [show zi S r 1 = nI n from hr.1, n0I (by omega)] at c8
      first
        | exact fin _ q18.1 (by rw [e0]; have := q18.2; rw [Nat.min_eq_left (by omega)] at this; exact this)
        | exact fin _ q46.1 (by rw [e1]; exact q46.2)
        | exact fin _ q67.1 (by rw [e2]; exact q67.2)
        | exact fin _ frS.rf (by rw [e0]; have e9 : n - 1 = n := (by omega); rw [e9]; exact hr)
        | exact fin _ frS.rf (by rw [e1, if_neg (fun q => h1 q.1)]; exact hr)
        | exact fin _ frS.rf (by rw [e1, if_neg (fun q => by omega)]; exact hr)
        | exact fin _ frS.rf (by rw [e2]; exact hr)
        | skip
    · rw [show zi S r 1 = nI n from hr.1, n0I (by omega)] at c8
      obtain ⟨m, rfl⟩ : ∃ m, n = m + 1 := ⟨n - 1, by omega⟩
      refine z_aload_n dX6_tryStep_11 rfl ?_
      refine z_aload_n dX6_tryStep_12 rfl ?_
      refine s_geti f_State_75 dX6_tryStep_13 hRT.1 rfl ?_
      refine z_iconst 1 dX6_tryStep_16 rfl ?_
      rw [show zi S r 1 = nI (m + 1) from hr.1]
      refine z_isub dX6_tryStep_17 ?_
      rw [nI_pred]
      refine n_callV0 l_State_76 (C_Rows_cutTo hRT hr (by omega) (show m ≤ 128 by omega)) hRT.1 dX6_tryStep_18 rfl rfl (Nat.le_of_ble_eq_true rfl) ⟨⟨by decide, by decide⟩, by decide, by decide⟩ (fun S18 q18 => ?_)
      refine z_goto 70 dX6_tryStep_21 (by decide) ?_
      first
        | exact fin _ q18.1 (by rw [e0]; have := q18.2; rw [Nat.min_eq_left (by omega)] at this; exact this)
        | exact fin _ q46.1 (by rw [e1]; exact q46.2)
        | exact fin _ q67.1 (by rw [e2]; exact q67.2)
        | exact fin _ frS.rf (by rw [e0]; have e9 : n - 1 = n := (by omega); rw [e9]; exact hr)
        | exact fin _ frS.rf (by rw [e1, if_neg (fun q => h1 q.1)]; exact hr)
        | exact fin _ frS.rf (by rw [e1, if_neg (fun q => by omega)]; exact hr)
        | exact fin _ frS.rf (by rw [e2]; exact hr)
        | skip
theorem C_State_tryPlan (hT : tState sh s) (hRT : tRows sh r) (hd : s + 93 ≤ r ∨ r + 82 ≤ s) (hR : rState S s A ga) (hG : gaOK A ga qn) : zN G m_State_tryPlan 6 sh [.ref s, .ref r] S none (fun S' => frS S (inRows r) S' ∧ rRows S' r (pRun A ga (aP A)).1 (pRun A ga (aP A)).2) := by
  obtain ⟨t1, t2, t3, t4, t5, t6⟩ := id hT
  have hok0 : okRV (aN A, aV A) := ⟨hG.1.1, fun j hj c hc => (hG.2.2.1 j hj c hc).2⟩
  have hp := hG.1.2.2.2.1
  refine s_meth 1 ⟨p_State, rfl, Nat.le_of_ble_eq_true rfl⟩ rfl (fun sz => ?_)
  have loop : ∀ d i S', aP A - i = d → i ≤ aP A → frS S (inRows r) S' → rRows S' r (pRun A ga i).1 (pRun A ga i).2 → zW G m_State_tryPlan (zRm 6 0 0) (zFm G (zP sh sz (fun r' S' => r' = none ∧ frS S (inRows r) S' ∧ rRows S' r (pRun A ga (aP A)).1 (pRun A ga (aP A)).2)) 0 0) 0 0 10 [some (.ref s), some (.ref r), some (.int (nI i))] [] (zhp sh S') sz := by
    intro d
    induction d with
    | zero =>
      intro i S' h1 h2 h3 h4
      have hi : i = aP A := by omega
      subst hi
      have r5 := (hR.fr h3 (fun b b1 b2 => by unfold inRows; omega)).2.2.2.2.1
      refine z_iload_n dX6_tryPlan_10 rfl ?_
      refine z_aload_n dX6_tryPlan_11 rfl ?_
      refine s_getr f_State_35 dX6_tryPlan_12 (by assumption) rfl ?_
      refine s_geti f_State_54 dX6_tryPlan_15 t5.1 rfl ?_
      refine z_icmp_ge 50 dX6_tryPlan_18 (by decide) (fun c18 => ?_) (fun c18 => ?_)
      · refine z_return dX6_tryPlan_50 rfl ⟨Nat.le_refl _, Nat.le_refl _⟩ ?_
        exact ⟨rfl, _, rfl, rfl, h3, h4⟩
      · rw [show zi S' (s + 87) 3 = nI (aP A) from r5.2.1] at c18
        exact absurd (nI_le (Nat.le_refl _) (by omega)) c18
    | succ d ih =>
      intro i S' h1 h2 h3 h4
      have hR2 := hR.fr h3 (fun b b1 b2 => by unfold inRows; omega)
      have r5 := hR2.2.2.2.2.1
      have cli : (nI i).toNatClampNeg = i := nI_clamp (by omega)
      have hin : vp_in (nI i) 10 := vp_in_nI (by omega) (by decide)
      obtain ⟨e1, e2⟩ := r5.2.2 i (by omega)
      refine z_iload_n dX6_tryPlan_10 rfl ?_
      refine z_aload_n dX6_tryPlan_11 rfl ?_
      refine s_getr f_State_35 dX6_tryPlan_12 (by assumption) rfl ?_
      refine s_geti f_State_54 dX6_tryPlan_15 t5.1 rfl ?_
      refine z_icmp_ge 50 dX6_tryPlan_18 (by decide) (fun c18 => ?_) (fun c18 => ?_)
      · rw [show zi S' (s + 87) 3 = nI (aP A) from r5.2.1] at c18
        exact absurd c18 (nI_ge (by omega) (by omega))
      · refine z_aload_n dX6_tryPlan_21 rfl ?_
        refine z_aload_n dX6_tryPlan_22 rfl ?_
        refine s_getr f_State_35 dX6_tryPlan_23 (by assumption) rfl ?_
        refine s_getr f_State_57 dX6_tryPlan_26 t5.1 rfl ?_
        refine z_iload_n dX6_tryPlan_29 rfl ?_
        refine s_iald dX6_tryPlan_30 t5.2.1 hin ?_
        refine z_aload_n dX6_tryPlan_31 rfl ?_
        refine s_getr f_State_35 dX6_tryPlan_32 (by assumption) rfl ?_
        refine s_getr f_State_68 dX6_tryPlan_35 t5.1 rfl ?_
        refine z_iload_n dX6_tryPlan_38 rfl ?_
        refine s_iald dX6_tryPlan_39 t5.2.2 hin ?_
        refine z_aload_n dX6_tryPlan_40 rfl ?_
        rw [cli, e1, e2]
        refine n_callV0 l_State_71 (C_State_tryStep (m := 0) hT hRT hd hR2 hG h4 (pRun_ok hok0 i)) t1 dX6_tryPlan_41 rfl rfl (Nat.le_of_ble_eq_true rfl) ⟨⟨by decide, by decide⟩, by decide, by decide⟩ (fun S41 q41 => ?_)
        refine z_iinc (lv' := [_, _, _]) 1 dX6_tryPlan_44 rfl (by decide) rfl rfl ?_
        refine z_goto 10 dX6_tryPlan_47 (by decide) ?_
        rw [nI_1]
        exact ih (i + 1) _ (by omega) (by omega) (h3.trans q41.1) q41.2
  refine z_aload_n dX6_tryPlan_0 rfl ?_
  refine z_aload_n dX6_tryPlan_1 rfl ?_
  refine s_getr f_State_12 dX6_tryPlan_2 t1 rfl ?_
  refine n_callV0 l_State_41 (C_Rows_become hRT t2 (by omega) hR.1) hRT.1 dX6_tryPlan_5 rfl rfl (Nat.le_of_ble_eq_true rfl) ⟨⟨by decide, by decide⟩, by decide, by decide⟩ (fun S5 q5 => ?_)
  refine z_iconst 0 dX6_tryPlan_8 rfl ?_
  refine z_istore_n (lv' := [_, _, _]) dX6_tryPlan_9 (by decide) rfl ?_
  exact loop (aP A) 0 _ rfl (Nat.zero_le _) q5.1 q5.2
end STATE

