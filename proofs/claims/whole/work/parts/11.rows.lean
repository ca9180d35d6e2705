/-! ===== Rows ===== -/
theorem nI_mulN (a b : Nat) : nI a * nI b = nI (a * b) := (Int32.ofNat_mul a b).symm
theorem nI_clampN {n : Nat} (h : n < 2 ^ 31) : (nI n).toNatClampNeg = n := nI_clamp h
/-- whether a value w is of kind k: k itself, or bit k less 16 of it -/
def kb (k w : Nat) : Bool := if k < 16 then decide (w = k) else w.testBit (k - 16)
/-- row of bits e of a row's values -/
def kq (e : Nat) (w : Nat → Nat) : Bool := kb (e % 20) (w (e / 20))
theorem kq_at {c k : Nat} (w : Nat → Nat) (hk : k < 20) : kq (c * 20 + k) w = kb k (w c) := by
  unfold kq
  rw [show (c * 20 + k) % 20 = k by omega, show (c * 20 + k) / 20 = c by omega]
abbrev fRow (r : Nat) : Nat → Option Nat := fun i => if i < 80 then some (r + 2 + i) else none
def tRows (sh : Nat → Option zSh) (r : Nat) : Prop := sh r = some (.inl (5, [some (some (r + 1)), none])) ∧ sh (r + 1) = some (.inr (3, 80, fRow r)) ∧ ∀ e, e < 80 → sh (r + 2 + e) = some kB
/-- the n rows v, as rows of bits at r -/
def rRows (S : zSt) (r n : Nat) (v : Nat → Nat → Nat) : Prop := zi S r 1 = nI n ∧ ∀ e, e < 80 → ∀ j, j < 128 → bq S (r + 2 + e) j = (decide (j < n) && kq e (v j))
/-- only longs change, and those within P alone -/
def lgS (S : zSt) (P : Nat → Prop) (S' : zSt) : Prop := S'.1 = S.1 ∧ S'.2.2.1 = S.2.2.1 ∧ S'.2.2.2 = S.2.2.2 ∧ ∀ b, ¬ P b → S'.2.1 b = S.2.1 b
theorem lgS.rf {S : zSt} {P : Nat → Prop} : lgS S P S := ⟨rfl, rfl, rfl, fun _ _ => rfl⟩
theorem bqS.lg {S S' : zSt} {a : Nat} {f : Nat → Bool} {P : Nat → Prop} (h : bqS S a f S') (ha : P a) : lgS S P S' := ⟨h.1, h.2.2.1, h.2.2.2.1, fun b hb => h.2.1 b (fun q => hb (q ▸ ha))⟩
theorem lgS.trans {S S1 S2 : zSt} {P : Nat → Prop} (h1 : lgS S P S1) (h2 : lgS S1 P S2) : lgS S P S2 := ⟨h2.1.trans h1.1, h2.2.1.trans h1.2.1, h2.2.2.1.trans h1.2.2.1, fun b hb => (h2.2.2.2 b hb).trans (h1.2.2.2 b hb)⟩
theorem lgS.weaken {S S1 : zSt} {P Q : Nat → Prop} (h1 : lgS S P S1) (h : ∀ b, P b → Q b) : lgS S Q S1 := ⟨h1.1, h1.2.1, h1.2.2.1, fun b hb => h1.2.2.2 b (fun q => hb (h b q))⟩
/-- outside P nothing changes -/
def zag (S S' : zSt) (b : Nat) : Prop := S'.1 b = S.1 b ∧ S'.2.1 b = S.2.1 b ∧ S'.2.2.1 b = S.2.2.1 b ∧ S'.2.2.2 b = S.2.2.2 b
def frS (S : zSt) (P : Nat → Prop) (S' : zSt) : Prop := ∀ b, ¬ P b → zag S S' b
theorem frS.rf {S : zSt} {P : Nat → Prop} : frS S P S := fun _ _ => ⟨rfl, rfl, rfl, rfl⟩
theorem frS.trans {S S1 S2 : zSt} {P : Nat → Prop} (h1 : frS S P S1) (h2 : frS S1 P S2) : frS S P S2 := fun b hb =>
  ⟨(h2 b hb).1.trans (h1 b hb).1, (h2 b hb).2.1.trans (h1 b hb).2.1, (h2 b hb).2.2.1.trans (h1 b hb).2.2.1, (h2 b hb).2.2.2.trans (h1 b hb).2.2.2⟩
theorem frS.weaken {S S1 : zSt} {P Q : Nat → Prop} (h1 : frS S P S1) (h : ∀ b, P b → Q b) : frS S Q S1 := fun b hb => h1 b (fun q => hb (h b q))
theorem lgS.fr {S S1 : zSt} {P : Nat → Prop} (h : lgS S P S1) : frS S P S1 := fun b hb => ⟨by rw [h.1], h.2.2.2 b hb, by rw [h.2.1], by rw [h.2.2.1]⟩
theorem frS.seti {S : zSt} {P : Nat → Prop} {a k : Nat} {v : Int32} (h : P a) : frS S P (zsi S a k v) := fun b hb => ⟨zup_off (fun q => hb (q ▸ h)), rfl, rfl, rfl⟩
theorem frS.seta {S : zSt} {P : Nat → Prop} {a k : Nat} {v : Int32} (h : P a) : frS S P (zsa S a k v) := fun b hb => ⟨rfl, rfl, zup_off (fun q => hb (q ▸ h)), rfl⟩
theorem frS.setj {S : zSt} {P : Nat → Prop} {a k : Nat} {v : Int64} (h : P a) : frS S P (zsj S a k v) := fun b hb => ⟨rfl, rfl, rfl, zup_off (fun q => hb (q ▸ h))⟩
theorem zag_bq {S S' : zSt} {b j : Nat} (h : zag S S' b) : bq S' b j = bq S b j := by unfold bq; rw [show zl S' b = zl S b from h.2.1]
theorem bq_lg {S S' : zSt} {b j : Nat} (h : S'.2.1 b = S.2.1 b) : bq S' b j = bq S b j := by unfold bq; rw [show zl S' b = zl S b from h]
theorem rRows.fr {S S' : zSt} {r n : Nat} {v : Nat → Nat → Nat} {P : Nat → Prop} (h : rRows S r n v) (hf : frS S P S') (hP : ∀ b, r ≤ b → b < r + 82 → ¬ P b) : rRows S' r n v := by
  refine ⟨?_, fun e he j hj => ?_⟩
  · rw [← h.1]; exact congrFun (hf r (hP r (Nat.le_refl _) (by omega))).1 1
  · rw [zag_bq (hf (r + 2 + e) (hP _ (by omega) (by omega)))]; exact h.2 e he j hj
section ROWS
variable {G : zG} {sh : Nat → Option zSh} {S : zSt} {r o n c k j : Nat} {v : Nat → Nat → Nat}
theorem C_Rows_hasRow {x : Int32} (hT : tRows sh r) (hR : zi S r 1 = nI n) (hn : n < 2 ^ 31) : zD G m_Rows_hasRow 1 sh [.ref r, .int x] S (some (.int (zo (decide (0 ≤ x ∧ x < nI n))))) S := by
  obtain ⟨t1, t2, t3⟩ := hT
  refine s_methD 0 ⟨p_Rows, rfl, Nat.le_of_ble_eq_true rfl⟩ rfl (fun sz => ?_)
  refine z_iload_n dX5_hasRow_0 rfl ?_
  refine z_if_lt 16 dX5_hasRow_1 (by decide) (fun c1 => ?_) (fun c1 => ?_)
  · rw [show decide (0 ≤ x ∧ x < nI n) = false from decide_eq_false (fun q => Int32.not_lt.mpr q.1 c1)]
    refine z_iconst 0 dX5_hasRow_16 rfl ?_
    refine z_ireturn dX5_hasRow_17 rfl rfl ⟨Nat.le_refl _, Nat.le_refl _⟩ ?_
    exact ⟨rfl, rfl, rfl⟩
  · refine z_iload_n dX5_hasRow_4 rfl ?_
    refine z_aload_n dX5_hasRow_5 rfl ?_
    refine s_geti f_Rows_17 dX5_hasRow_6 (by assumption) rfl ?_
    refine z_icmp_ge 16 dX5_hasRow_9 (by decide) (fun c9 => ?_) (fun c9 => ?_)
    · rw [hR] at c9
      rw [show decide (0 ≤ x ∧ x < nI n) = false from decide_eq_false (fun q => Int32.not_lt.mpr c9 q.2)]
      refine z_iconst 0 dX5_hasRow_16 rfl ?_
      refine z_ireturn dX5_hasRow_17 rfl rfl ⟨Nat.le_refl _, Nat.le_refl _⟩ ?_
      exact ⟨rfl, rfl, rfl⟩
    · rw [hR] at c9
      rw [show decide (0 ≤ x ∧ x < nI n) = true from decide_eq_true ⟨Int32.not_lt.mp c1, Int32.not_le.mp c9⟩]
      refine z_iconst 1 dX5_hasRow_12 rfl ?_
      refine z_goto 17 dX5_hasRow_13 (by decide) ?_
      refine z_ireturn dX5_hasRow_17 rfl rfl ⟨Nat.le_refl _, Nat.le_refl _⟩ ?_
      exact ⟨rfl, rfl, rfl⟩
theorem C_Rows_isFull (hT : tRows sh r) (hR : zi S r 1 = nI n) (hn : n < 2 ^ 31) : zD G m_Rows_isFull 1 sh [.ref r] S (some (.int (zo (decide (120 ≤ n))))) S := by
  obtain ⟨t1, t2, t3⟩ := hT
  refine s_methD 0 ⟨p_Rows, rfl, Nat.le_of_ble_eq_true rfl⟩ rfl (fun sz => ?_)
  refine z_aload_n dX5_isFull_0 rfl ?_
  refine s_geti f_Rows_17 dX5_isFull_1 (by assumption) rfl ?_
  refine z_bipush 120 dX5_isFull_4 (by decide) ?_
  refine z_icmp_lt 13 dX5_isFull_6 (by decide) (fun c6 => ?_) (fun c6 => ?_)
  · rw [hR] at c6
    rw [show decide (120 ≤ n) = false from decide_eq_false (by have := (nI_ltI (b := 120) hn (by decide)).mp c6; omega)]
    refine z_iconst 0 dX5_isFull_13 rfl ?_
    refine z_ireturn dX5_isFull_14 rfl rfl ⟨Nat.le_refl _, Nat.le_refl _⟩ ?_
    exact ⟨rfl, rfl, rfl⟩
  · rw [hR] at c6
    rw [show decide (120 ≤ n) = true from decide_eq_true (by
      rcases Nat.lt_or_ge n 120 with q | q
      · exact absurd (nI_lt (b := 120) q (by decide)) c6
      · exact q)]
    refine z_iconst 1 dX5_isFull_9 rfl ?_
    refine z_goto 14 dX5_isFull_10 (by decide) ?_
    refine z_ireturn dX5_isFull_14 rfl rfl ⟨Nat.le_refl _, Nat.le_refl _⟩ ?_
    exact ⟨rfl, rfl, rfl⟩
theorem C_Rows_bitsOf (hT : tRows sh r) (hc : c < 4) (hk : k < 20) : zD G m_Rows_bitsOf 1 sh [.ref r, .int (nI c), .int (nI k)] S (some (.ref (r + 2 + (c * 20 + k)))) S := by
  obtain ⟨t1, t2, t3⟩ := hT
  refine s_methD 0 ⟨p_Rows, rfl, Nat.le_of_ble_eq_true rfl⟩ rfl (fun sz => ?_)
  refine z_aload_n dX5_bitsOf_0 rfl ?_
  refine s_getr f_Rows_11 dX5_bitsOf_1 (by assumption) rfl ?_
  refine z_iload_n dX5_bitsOf_4 rfl ?_
  refine z_bipush 20 dX5_bitsOf_5 (by decide) ?_
  refine z_imul dX5_bitsOf_7 ?_
  refine z_iload_n dX5_bitsOf_8 rfl ?_
  refine z_iadd dX5_bitsOf_9 ?_
  rw [show (20 : Int32) = nI 20 from rfl, nI_mulN, nI_add]
  refine s_aald (by decide) dX5_bitsOf_10 t2 (vp_in_nI (by omega) (by omega)) (by rw [nI_clamp (by omega)]; exact if_pos (by omega)) ?_
  refine z_areturn dX5_bitsOf_11 rfl ⟨Nat.le_refl _, Nat.le_refl _⟩ ?_
  exact ⟨rfl, rfl, rfl⟩
def vpart (w : Nat) : Nat → Nat
  | 0 => 0
  | i + 1 => vpart w i ||| (if w.testBit i then 2 ^ i else 0)
theorem vpart_4 : ∀ w, w < 16 → vpart w 4 = w := by decide +kernel
theorem vpart_lt : ∀ w, w < 16 → ∀ i, i < 4 → (if kb (16 + i) w then nI (vpart w i) ||| ((1 : Int32) <<< (nI i &&& 31)) else nI (vpart w i)) = nI (vpart w (i + 1)) := by decide +kernel
theorem L_valueOf {F : zFin} {sz : Nat} (hT : tRows sh r) (hR : rRows S r n v) (hn : n ≤ 120) (hj : j < n) (hc : c < 4) (hv : v j c < 16) (kk : zW G m_Rows_valueOf (zRm (2) 0 0) F 0 0 41 [some (.ref r), some (.int (nI j)), some (.int (nI c)), some (.int (nI (v j c))), some (.int (nI 4))] [] (zhp sh S) sz) :
    ∀ d i, 4 - i = d → i ≤ 4 → zW G m_Rows_valueOf (zRm (2) 0 0) F 0 0 5 [some (.ref r), some (.int (nI j)), some (.int (nI c)), some (.int (nI (vpart (v j c) i))), some (.int (nI i))] [] (zhp sh S) sz := by
  intro d
  induction d with
  | zero =>
    intro i h1 h2
    have hi : i = 4 := by omega
    subst hi
    rw [vpart_4 _ hv]
    refine z_iload dX5_valueOf_5 rfl ?_
    refine z_iconst 4 dX5_valueOf_7 rfl ?_
    refine z_icmp_ge 41 dX5_valueOf_8 (by decide) (fun c8 => ?_) (fun c8 => ?_)
    · exact kk
    · exact absurd (nI_le (a := 4) (b := 4) (Nat.le_refl _) (by decide)) c8
  | succ d ih =>
    intro i h1 h2
    have hb : bq S (r + 2 + (c * 20 + (16 + i))) j = kb (16 + i) (v j c) := by
      rw [hR.2 _ (by omega) j (by omega), kq_at _ (by omega)]
      simp [hj]
    have hs := vpart_lt _ hv i (by omega)
    refine z_iload dX5_valueOf_5 rfl ?_
    refine z_iconst 4 dX5_valueOf_7 rfl ?_
    refine z_icmp_ge 41 dX5_valueOf_8 (by decide) (fun c8 => ?_) (fun c8 => ?_)
    · exact absurd c8 (nI_ge (b := 4) (by omega) (by decide))
    · refine z_aload_n dX5_valueOf_11 rfl ?_
      refine z_iload_n dX5_valueOf_12 rfl ?_
      refine z_bipush 16 dX5_valueOf_13 (by decide) ?_
      refine z_iload dX5_valueOf_15 rfl ?_
      refine z_iadd dX5_valueOf_17 ?_
      rw [show (16 : Int32) = nI 16 from rfl, nI_add]
      refine s_callV1 l_Rows_22 (C_Rows_bitsOf hT hc (by omega)) hT.1 dX5_valueOf_18 rfl rfl (Nat.le_of_ble_eq_true rfl) ⟨⟨by decide, by decide⟩, by decide, by decide⟩ ?_
      refine z_iload_n dX5_valueOf_21 rfl ?_
      refine s_callV1 l_Rows_26 (C_Bits_has (hT.2.2 _ (by omega)) (by omega)) (hT.2.2 _ (by omega)) dX5_valueOf_22 rfl rfl (Nat.le_of_ble_eq_true rfl) ⟨⟨by decide, by decide⟩, by decide, by decide⟩ ?_
      refine z_if_eq 35 dX5_valueOf_25 (by decide) (fun c25 => ?_) (fun c25 => ?_)
      · rw [hb] at c25
        rw [zo_eq0.mp c25, if_neg (by decide)] at hs
        refine z_iinc (lv' := [_, _, _, _, _]) 1 dX5_valueOf_35 rfl (by decide) rfl rfl ?_
        refine z_goto 5 dX5_valueOf_38 (by decide) ?_
        rw [nI_1]
        rw [hs]
        exact ih (i + 1) (by omega) (by omega)
      · rw [hb] at c25
        rw [zo_ne0.mp c25, if_pos rfl] at hs
        refine z_iload_n dX5_valueOf_28 rfl ?_
        refine z_iconst 1 dX5_valueOf_29 rfl ?_
        refine z_iload dX5_valueOf_30 rfl ?_
        refine z_ishl dX5_valueOf_32 ?_
        refine z_ior dX5_valueOf_33 ?_
        refine z_istore_n (lv' := [_, _, _, _, _]) dX5_valueOf_34 (by decide) rfl ?_
        refine z_iinc (lv' := [_, _, _, _, _]) 1 dX5_valueOf_35 rfl (by decide) rfl rfl ?_
        refine z_goto 5 dX5_valueOf_38 (by decide) ?_
        rw [nI_1]
        rw [hs]
        exact ih (i + 1) (by omega) (by omega)
theorem C_Rows_valueOf (hT : tRows sh r) (hR : rRows S r n v) (hn : n ≤ 120) (hj : j < n) (hc : c < 4) (hv : v j c < 16) : zD G m_Rows_valueOf 2 sh [.ref r, .int (nI j), .int (nI c)] S (some (.int (nI (v j c)))) S := by
  refine s_methD 2 ⟨p_Rows, rfl, Nat.le_of_ble_eq_true rfl⟩ rfl (fun sz => ?_)
  refine z_iconst 0 dX5_valueOf_0 rfl ?_
  refine z_istore_n (lv' := [_, _, _, _, _]) dX5_valueOf_1 (by decide) rfl ?_
  refine z_iconst 0 dX5_valueOf_2 rfl ?_
  refine z_istore (lv' := [_, _, _, _, _]) dX5_valueOf_3 (by decide) rfl ?_
  refine L_valueOf hT hR hn hj hc hv ?_ 4 0 rfl (by decide)
  refine z_iload_n dX5_valueOf_41 rfl ?_
  refine z_ireturn dX5_valueOf_42 rfl rfl ⟨Nat.le_refl _, Nat.le_refl _⟩ ?_
  exact ⟨rfl, rfl, rfl⟩
/-- some rows of bits have got a one at place n -/
def putS (S : zSt) (r n : Nat) (p : Nat → Bool) (S' : zSt) : Prop := lgS S (fun b => r + 2 ≤ b ∧ b < r + 82) S' ∧ ∀ e, e < 80 → ∀ j, j < 128 → bq S' (r + 2 + e) j = (bq S (r + 2 + e) j || (decide (j = n) && p e))
theorem putS.one {S S1 S2 : zSt} {r n e0 : Nat} {p q : Nat → Bool} (h : putS S r n p S1) (he : e0 < 80) (h2 : bqS S1 (r + 2 + e0) (fun i => bq S1 (r + 2 + e0) i || decide (i = n)) S2) (hq : ∀ e, e < 80 → q e = (p e || decide (e = e0))) : putS S r n q S2 := by
  refine ⟨h.1.trans (h2.lg ⟨by omega, by omega⟩), fun e he2 j hj => ?_⟩
  by_cases hee : e = e0
  · subst hee
    rw [h2.2.2.2.2 j hj]
    show (bq S1 (r + 2 + e) j || decide (j = n)) = _
    rw [h.2 e he2 j hj, hq e he2]
    cases bq S (r + 2 + e) j <;> cases p e <;> simp
  · rw [bq_lg (h2.2.1 _ (by omega)), h.2 e he2 j hj, hq e he2, decide_eq_false hee, Bool.or_false]
def pPart (c w i : Nat) : Nat → Bool := fun e => decide (e = c * 20 + w) || (decide (c * 20 + 16 ≤ e ∧ e < c * 20 + 16 + i) && w.testBit (e - (c * 20 + 16)))
theorem pPart_s {c w i e : Nat} (hc : c < 4) (hw : w < 16) : pPart c w (i + 1) e = (pPart c w i e || (decide (e = c * 20 + (16 + i)) && w.testBit i)) := by
  unfold pPart
  by_cases h : e = c * 20 + (16 + i)
  · subst h
    rw [show c * 20 + (16 + i) - (c * 20 + 16) = i by omega, decide_eq_true (show c * 20 + 16 ≤ c * 20 + (16 + i) ∧ c * 20 + (16 + i) < c * 20 + 16 + (i + 1) by omega), decide_eq_false (show ¬ (c * 20 + 16 ≤ c * 20 + (16 + i) ∧ c * 20 + (16 + i) < c * 20 + 16 + i) by omega), decide_eq_false (show ¬ c * 20 + (16 + i) = c * 20 + w by omega)]
    simp
  · rw [decide_eq_false h, Bool.false_and, Bool.or_false]
    have : (c * 20 + 16 ≤ e ∧ e < c * 20 + 16 + (i + 1)) ↔ (c * 20 + 16 ≤ e ∧ e < c * 20 + 16 + i) := by omega
    rw [decide_eq_decide.mpr this]
theorem pPart_4 {c w : Nat} (hc : c < 4) (hw : w < 16) : ∀ e, e < 80 → pPart c w 4 e = (decide (e / 20 = c) && kb (e % 20) w) := by
  intro e he
  unfold pPart kb
  by_cases h1 : e / 20 = c
  · rw [decide_eq_true h1, Bool.true_and]
    by_cases h2 : e % 20 < 16
    · rw [if_pos h2, decide_eq_false (show ¬ (c * 20 + 16 ≤ e ∧ e < c * 20 + 16 + 4) by omega), Bool.false_and, Bool.or_false]
      exact decide_eq_decide.mpr (by omega)
    · rw [if_neg h2, decide_eq_false (show ¬ e = c * 20 + w by omega), decide_eq_true (show c * 20 + 16 ≤ e ∧ e < c * 20 + 16 + 4 by omega), show e - (c * 20 + 16) = e % 20 - 16 by omega]
      simp
  · rw [decide_eq_false h1, decide_eq_false (show ¬ e = c * 20 + w by omega), decide_eq_false (show ¬ (c * 20 + 16 ≤ e ∧ e < c * 20 + 16 + 4) by omega)]
    rfl
theorem shr1 : ∀ w, w < 16 → ∀ i, i < 4 → ((nI w >>> (nI i &&& 31)) &&& 1) = zo (w.testBit i) := by decide +kernel
theorem L_putLast {F : zFin} {sz w : Nat} {S0 : zSt} (hT : tRows sh r) (hn : n < 128) (hc : c < 4) (hw : w < 16) (hz : zi S0 r 1 = nI n)
    (kk : ∀ S', putS S0 r n (pPart c w 4) S' → zW G m_Rows_putLast (zRm (2) 0 0) F 0 0 50 [some (.ref r), some (.int (nI c)), some (.int (nI w)), some (.int (nI 4))] [] (zhp sh S') sz) :
    ∀ d i S, 4 - i = d → i ≤ 4 → putS S0 r n (pPart c w i) S → zW G m_Rows_putLast (zRm (2) 0 0) F 0 0 15 [some (.ref r), some (.int (nI c)), some (.int (nI w)), some (.int (nI i))] [] (zhp sh S) sz := by
  obtain ⟨t1, t2, t3⟩ := hT
  intro d
  induction d with
  | zero =>
    intro i S h1 h2 h3
    have hi : i = 4 := by omega
    subst hi
    refine z_iload_n dX5_putLast_15 rfl ?_
    refine z_iconst 4 dX5_putLast_16 rfl ?_
    refine z_icmp_ge 50 dX5_putLast_17 (by decide) (fun c17 => ?_) (fun c17 => ?_)
    · exact kk S h3
    · exact absurd (nI_le (a := 4) (b := 4) (Nat.le_refl _) (by decide)) c17
  | succ d ih =>
    intro i S h1 h2 h3
    have hs : zi S r 1 = nI n := by rw [← hz]; exact congrFun (congrFun h3.1.1 r) 1
    refine z_iload_n dX5_putLast_15 rfl ?_
    refine z_iconst 4 dX5_putLast_16 rfl ?_
    refine z_icmp_ge 50 dX5_putLast_17 (by decide) (fun c17 => ?_) (fun c17 => ?_)
    · exact absurd c17 (nI_ge (b := 4) (by omega) (by decide))
    · refine z_iload_n dX5_putLast_20 rfl ?_
      refine z_iload_n dX5_putLast_21 rfl ?_
      refine z_ishr dX5_putLast_22 ?_
      refine z_iconst 1 dX5_putLast_23 rfl ?_
      refine z_iand dX5_putLast_24 ?_
      rw [shr1 w hw i (by omega)]
      refine z_if_eq 44 dX5_putLast_25 (by decide) (fun c25 => ?_) (fun c25 => ?_)
      · have hb := zo_eq0.mp c25
        refine z_iinc (lv' := [_, _, _, _]) 1 dX5_putLast_44 rfl (by decide) rfl rfl ?_
        refine z_goto 15 dX5_putLast_47 (by decide) ?_
        rw [nI_1]
        first
          | exact ih (i + 1) _ (by omega) (by omega) (h3.one (by omega) q41 (fun e he => by rw [pPart_s hc hw, hb, Bool.and_true]))
          | exact ih (i + 1) _ (by omega) (by omega) ⟨h3.1, fun e he j hj => by rw [h3.2 e he j hj, pPart_s hc hw, hb, Bool.and_false, Bool.or_false]⟩
      · have hb := zo_ne0.mp c25
        refine z_aload_n dX5_putLast_28 rfl ?_
        refine z_iload_n dX5_putLast_29 rfl ?_
        refine z_bipush 16 dX5_putLast_30 (by decide) ?_
        refine z_iload_n dX5_putLast_32 rfl ?_
        refine z_iadd dX5_putLast_33 ?_
        rw [show (16 : Int32) = nI 16 from rfl, nI_add]
        refine s_callV1 l_Rows_22 (C_Rows_bitsOf ⟨t1, t2, t3⟩ hc (by omega)) t1 dX5_putLast_34 rfl rfl (Nat.le_of_ble_eq_true rfl) ⟨⟨by decide, by decide⟩, by decide, by decide⟩ ?_
        refine z_aload_n dX5_putLast_37 rfl ?_
        refine s_geti f_Rows_17 dX5_putLast_38 (by assumption) rfl ?_
        rw [hs]
        refine n_callV0 l_Rows_42 (C_Bits_put (t3 _ (by omega)) hn) (t3 _ (by omega)) dX5_putLast_41 rfl rfl (Nat.le_of_ble_eq_true rfl) ⟨⟨by decide, by decide⟩, by decide, by decide⟩ (fun S41 q41 => ?_)
        refine z_iinc (lv' := [_, _, _, _]) 1 dX5_putLast_44 rfl (by decide) rfl rfl ?_
        refine z_goto 15 dX5_putLast_47 (by decide) ?_
        rw [nI_1]
        first
          | exact ih (i + 1) _ (by omega) (by omega) (h3.one (by omega) q41 (fun e he => by rw [pPart_s hc hw, hb, Bool.and_true]))
          | exact ih (i + 1) _ (by omega) (by omega) ⟨h3.1, fun e he j hj => by rw [h3.2 e he j hj, pPart_s hc hw, hb, Bool.and_false, Bool.or_false]⟩
theorem C_Rows_putLast {w : Nat} (hT : tRows sh r) (hz : zi S r 1 = nI n) (hn : n < 128) (hc : c < 4) (hw : w < 16) : zN G m_Rows_putLast 2 sh [.ref r, .int (nI c), .int (nI w)] S none (putS S r n (fun e => decide (e / 20 = c) && kb (e % 20) w)) := by
  obtain ⟨t1, t2, t3⟩ := id hT
  refine s_meth 1 ⟨p_Rows, rfl, Nat.le_of_ble_eq_true rfl⟩ rfl (fun sz => ?_)
  refine z_aload_n dX5_putLast_0 rfl ?_
  refine z_iload_n dX5_putLast_1 rfl ?_
  refine z_iload_n dX5_putLast_2 rfl ?_
  refine s_callV1 l_Rows_22 (C_Rows_bitsOf hT hc (by omega)) t1 dX5_putLast_3 rfl rfl (Nat.le_of_ble_eq_true rfl) ⟨⟨by decide, by decide⟩, by decide, by decide⟩ ?_
  refine z_aload_n dX5_putLast_6 rfl ?_
  refine s_geti f_Rows_17 dX5_putLast_7 (by assumption) rfl ?_
  rw [hz]
  refine n_callV0 l_Rows_42 (C_Bits_put (t3 _ (by omega)) hn) (t3 _ (by omega)) dX5_putLast_10 rfl rfl (Nat.le_of_ble_eq_true rfl) ⟨⟨by decide, by decide⟩, by decide, by decide⟩ (fun S10 q10 => ?_)
  refine z_iconst 0 dX5_putLast_13 rfl ?_
  refine z_istore_n (lv' := [_, _, _, _]) dX5_putLast_14 (by decide) rfl ?_
  refine L_putLast hT hn hc hw hz (fun S' h => ?_) 4 0 _ rfl (by decide) (putS.one (p := fun _ => false) ⟨lgS.rf, fun e he j hj => by simp⟩ (by omega) q10 (fun e he => by unfold pPart; rw [decide_eq_false (show ¬ (c * 20 + 16 ≤ e ∧ e < c * 20 + 16 + 0) by omega)]; simp))
  refine z_return dX5_putLast_50 rfl ⟨Nat.le_refl _, Nat.le_refl _⟩ ⟨rfl, _, rfl, rfl, h.1, fun e he j hj => ?_⟩
  rw [h.2 e he j hj, pPart_4 hc hw e he]
theorem putS.trans {S S1 S2 : zSt} {r n : Nat} {p q : Nat → Bool} (h1 : putS S r n p S1) (h2 : putS S1 r n q S2) : putS S r n (fun e => p e || q e) S2 := by
  refine ⟨h1.1.trans h2.1, fun e he j hj => ?_⟩
  rw [h2.2 e he j hj, h1.2 e he j hj]
  show _ = (bq S (r + 2 + e) j || (decide (j = n) && (p e || q e)))
  cases bq S (r + 2 + e) j <;> cases p e <;> cases q e <;> cases decide (j = n) <;> rfl
/-- one more row -/
def vPush (v : Nat → Nat → Nat) (n : Nat) (w : Nat → Nat) : Nat → Nat → Nat := fun j c => if j = n then w c else v j c
theorem kq_push {n j e : Nat} {v : Nat → Nat → Nat} {w : Nat → Nat} : (decide (j < n) && kq e (v j) || decide (j = n) && kq e w) = (decide (j < n + 1) && kq e (vPush v n w j)) := by
  unfold kq vPush
  by_cases h : j = n
  · subst h; simp
  · by_cases h2 : j < n
    · simp [h, h2, show j < n + 1 by omega]
    · simp [h, h2, show ¬ j < n + 1 by omega]
theorem kq_4 (w : Nat → Nat) {e : Nat} (he : e < 80) : ((((decide (e / 20 = 0) && kb (e % 20) (w 0)) || (decide (e / 20 = 1) && kb (e % 20) (w 1))) || (decide (e / 20 = 2) && kb (e % 20) (w 2))) || (decide (e / 20 = 3) && kb (e % 20) (w 3))) = kq e w := by
  unfold kq
  rcases (by omega : e / 20 = 0 ∨ e / 20 = 1 ∨ e / 20 = 2 ∨ e / 20 = 3) with h | h | h | h <;> rw [h] <;> simp
/-- what append leaves: within the cells of r -/
def inRows (r : Nat) : Nat → Prop := fun b => r ≤ b ∧ b < r + 82
theorem C_Rows_append {w : Nat → Nat} (hT : tRows sh r) (hR : rRows S r n v) (hn : n < 120) (hw : ∀ c, c < 4 → w c < 16) : zN G m_Rows_append 3 sh [.ref r, .int (nI (w 0)), .int (nI (w 1)), .int (nI (w 2)), .int (nI (w 3))] S none (fun S' => frS S (inRows r) S' ∧ rRows S' r (n + 1) (vPush v n w)) := by
  have hz : ∀ S' p, putS S r n p S' → zi S' r 1 = nI n := fun S' p h => by rw [← hR.1]; exact congrFun (congrFun h.1.1 r) 1
  refine s_meth 0 ⟨p_Rows, rfl, Nat.le_of_ble_eq_true rfl⟩ rfl (fun sz => ?_)
  refine z_aload_n dX5_append_0 rfl ?_
  refine z_iconst 0 dX5_append_1 rfl ?_
  refine z_iload_n dX5_append_2 rfl ?_
  refine n_callV0 l_Rows_30 (C_Rows_putLast (c := 0) hT hR.1 (by omega) (by decide) (hw 0 (by decide))) hT.1 dX5_append_3 rfl rfl (Nat.le_of_ble_eq_true rfl) ⟨⟨by decide, by decide⟩, by decide, by decide⟩ (fun S3 q3 => ?_)
  refine z_aload_n dX5_append_6 rfl ?_
  refine z_iconst 1 dX5_append_7 rfl ?_
  refine z_iload_n dX5_append_8 rfl ?_
  refine n_callV0 l_Rows_30 (C_Rows_putLast (c := 1) hT (hz _ _ q3) (by omega) (by decide) (hw 1 (by decide))) hT.1 dX5_append_9 rfl rfl (Nat.le_of_ble_eq_true rfl) ⟨⟨by decide, by decide⟩, by decide, by decide⟩ (fun S9 q9 => ?_)
  have q9 := q3.trans q9
  refine z_aload_n dX5_append_12 rfl ?_
  refine z_iconst 2 dX5_append_13 rfl ?_
  refine z_iload_n dX5_append_14 rfl ?_
  refine n_callV0 l_Rows_30 (C_Rows_putLast (c := 2) hT (hz _ _ q9) (by omega) (by decide) (hw 2 (by decide))) hT.1 dX5_append_15 rfl rfl (Nat.le_of_ble_eq_true rfl) ⟨⟨by decide, by decide⟩, by decide, by decide⟩ (fun S15 q15 => ?_)
  have q15 := q9.trans q15
  refine z_aload_n dX5_append_18 rfl ?_
  refine z_iconst 3 dX5_append_19 rfl ?_
  refine z_iload dX5_append_20 rfl ?_
  refine n_callV0 l_Rows_30 (C_Rows_putLast (c := 3) hT (hz _ _ q15) (by omega) (by decide) (hw 3 (by decide))) hT.1 dX5_append_22 rfl rfl (Nat.le_of_ble_eq_true rfl) ⟨⟨by decide, by decide⟩, by decide, by decide⟩ (fun S22 q22 => ?_)
  have q22 := q15.trans q22
  refine z_aload_n dX5_append_25 rfl ?_
  refine z_dup dX5_append_26 rfl ?_
  refine s_geti f_Rows_17 dX5_append_27 hT.1 rfl ?_
  refine z_iconst 1 dX5_append_30 rfl ?_
  refine z_iadd dX5_append_31 ?_
  refine s_puti f_Rows_17 dX5_append_32 hT.1 rfl ⟨rfl, rfl⟩ ?_
  refine z_return dX5_append_35 rfl ⟨Nat.le_refl _, Nat.le_refl _⟩ ?_
  have hz4 := hz _ _ q22
  refine ⟨rfl, _, rfl, rfl, (q22.1.fr.weaken (fun b hb => (show r ≤ b ∧ b < r + 82 by omega))).trans (frS.seti (show r ≤ r ∧ r < r + 82 by omega)), ?_, fun e he j hj => ?_⟩
  · show zup _ r 1 _ r 1 = _
    rw [zup_same, hz4, nI_1]
  · have h5 := q22.2 e he j hj
    dsimp only at h5
    rw [show bq (zsi S22 r 1 _) (r + 2 + e) j = bq S22 (r + 2 + e) j from rfl, h5, kq_4 w he, hR.2 e he j hj, kq_push]
theorem C_Rows_appendLike {i : Nat} (hT : tRows sh r) (hR : rRows S r n v) (hn : n < 120) (hi : i < n) (hv : ∀ c, c < 4 → v i c < 16) : zN G m_Rows_appendLike 4 sh [.ref r, .int (nI i)] S none (fun S' => frS S (inRows r) S' ∧ rRows S' r (n + 1) (vPush v n (v i))) := by
  refine s_meth 0 ⟨p_Rows, rfl, Nat.le_of_ble_eq_true rfl⟩ rfl (fun sz => ?_)
  refine z_aload_n dX5_appendLike_0 rfl ?_
  refine z_aload_n dX5_appendLike_1 rfl ?_
  refine z_iload_n dX5_appendLike_2 rfl ?_
  refine z_iconst 0 dX5_appendLike_3 rfl ?_
  refine s_callV1 l_Rows_34 (C_Rows_valueOf (c := 0) hT hR (by omega) hi (by decide) (hv 0 (by decide))) hT.1 dX5_appendLike_4 rfl rfl (Nat.le_of_ble_eq_true rfl) ⟨⟨by decide, by decide⟩, by decide, by decide⟩ ?_
  refine z_aload_n dX5_appendLike_7 rfl ?_
  refine z_iload_n dX5_appendLike_8 rfl ?_
  refine z_iconst 1 dX5_appendLike_9 rfl ?_
  refine s_callV1 l_Rows_34 (C_Rows_valueOf (c := 1) hT hR (by omega) hi (by decide) (hv 1 (by decide))) hT.1 dX5_appendLike_10 rfl rfl (Nat.le_of_ble_eq_true rfl) ⟨⟨by decide, by decide⟩, by decide, by decide⟩ ?_
  refine z_aload_n dX5_appendLike_13 rfl ?_
  refine z_iload_n dX5_appendLike_14 rfl ?_
  refine z_iconst 2 dX5_appendLike_15 rfl ?_
  refine s_callV1 l_Rows_34 (C_Rows_valueOf (c := 2) hT hR (by omega) hi (by decide) (hv 2 (by decide))) hT.1 dX5_appendLike_16 rfl rfl (Nat.le_of_ble_eq_true rfl) ⟨⟨by decide, by decide⟩, by decide, by decide⟩ ?_
  refine z_aload_n dX5_appendLike_19 rfl ?_
  refine z_iload_n dX5_appendLike_20 rfl ?_
  refine z_iconst 3 dX5_appendLike_21 rfl ?_
  refine s_callV1 l_Rows_34 (C_Rows_valueOf (c := 3) hT hR (by omega) hi (by decide) (hv 3 (by decide))) hT.1 dX5_appendLike_22 rfl rfl (Nat.le_of_ble_eq_true rfl) ⟨⟨by decide, by decide⟩, by decide, by decide⟩ ?_
  refine n_callV0 l_Rows_38 (C_Rows_append (w := v i) hT hR hn hv) hT.1 dX5_appendLike_25 rfl rfl (Nat.le_of_ble_eq_true rfl) ⟨⟨by decide, by decide⟩, by decide, by decide⟩ (fun S25 q25 => ?_)
  refine z_return dX5_appendLike_28 rfl ⟨Nat.le_refl _, Nat.le_refl _⟩ ?_
  exact ⟨rfl, _, rfl, rfl, q25⟩
/-- rows of bits below i have been changed -/
def bitsS (S : zSt) (r : Nat) (i : Nat) (f : Nat → Nat → Bool) (S' : zSt) : Prop := lgS S (fun b => r + 2 ≤ b ∧ b < r + 82) S' ∧ (∀ e, e < i → ∀ j, j < 128 → bq S' (r + 2 + e) j = f e j) ∧ ∀ e, i ≤ e → e < 80 → S'.2.1 (r + 2 + e) = S.2.1 (r + 2 + e)
theorem bitsS.one {S S1 S2 : zSt} {r i : Nat} {f : Nat → Nat → Bool} (h : bitsS S r i f S1) (hi : i < 80) (h2 : bqS S1 (r + 2 + i) (f i) S2) : bitsS S r (i + 1) f S2 := by
  refine ⟨h.1.trans (h2.lg ⟨by omega, by omega⟩), fun e he j hj => ?_, fun e he h80 => ?_⟩
  · by_cases hee : e = i
    · subst hee; exact h2.2.2.2.2 j hj
    · rw [bq_lg (h2.2.1 _ (by omega))]; exact h.2.1 e (by omega) j hj
  · rw [h2.2.1 _ (by omega)]; exact h.2.2 e (by omega) h80
theorem L_cutTo {F : zFin} {sz t : Nat} {S0 : zSt} (hT : tRows sh r) (ht : t ≤ 128)
    (kk : ∀ S', bitsS S0 r 80 (fun e j => bq S0 (r + 2 + e) j && decide (j < t)) S' → zW G m_Rows_cutTo (zRm (3) 0 0) F 0 0 33 [some (.ref r), some (.int (nI t)), some (.int (nI 80))] [] (zhp sh S') sz) :
    ∀ d i S, 80 - i = d → i ≤ 80 → bitsS S0 r i (fun e j => bq S0 (r + 2 + e) j && decide (j < t)) S → zW G m_Rows_cutTo (zRm (3) 0 0) F 0 0 11 [some (.ref r), some (.int (nI t)), some (.int (nI i))] [] (zhp sh S) sz := by
  obtain ⟨t1, t2, t3⟩ := hT
  intro d
  induction d with
  | zero =>
    intro i S h1 h2 h3
    have hi : i = 80 := by omega
    subst hi
    refine z_iload_n dX5_cutTo_11 rfl ?_
    refine z_bipush 80 dX5_cutTo_12 (by decide) ?_
    refine z_icmp_ge 33 dX5_cutTo_14 (by decide) (fun c14 => ?_) (fun c14 => ?_)
    · exact kk S h3
    · exact absurd (nI_le (a := 80) (b := 80) (Nat.le_refl _) (by decide)) c14
  | succ d ih =>
    intro i S h1 h2 h3
    refine z_iload_n dX5_cutTo_11 rfl ?_
    refine z_bipush 80 dX5_cutTo_12 (by decide) ?_
    refine z_icmp_ge 33 dX5_cutTo_14 (by decide) (fun c14 => ?_) (fun c14 => ?_)
    · exact absurd c14 (nI_ge (b := 80) (by omega) (by decide))
    · refine z_aload_n dX5_cutTo_17 rfl ?_
      refine s_getr f_Rows_11 dX5_cutTo_18 (by assumption) rfl ?_
      refine z_iload_n dX5_cutTo_21 rfl ?_
      refine s_aald (by decide) dX5_cutTo_22 t2 (vp_in_nI (by omega) (by omega)) (by rw [nI_clamp (by omega)]; exact if_pos (by omega)) ?_
      refine z_iload_n dX5_cutTo_23 rfl ?_
      refine n_callV0 l_Rows_46 (C_Bits_cutTo (t3 _ (by omega)) ht) (t3 _ (by omega)) dX5_cutTo_24 rfl rfl (Nat.le_of_ble_eq_true rfl) ⟨⟨by decide, by decide⟩, by decide, by decide⟩ (fun S24 q24 => ?_)
      refine z_iinc (lv' := [_, _, _]) 1 dX5_cutTo_27 rfl (by decide) rfl rfl ?_
      refine z_goto 11 dX5_cutTo_30 (by decide) ?_
      rw [nI_1]
      exact ih (i + 1) _ (by omega) (by omega) (h3.one (by omega) (bqS_fun q24 (fun j hj => by rw [bq_lg (h3.2.2 i (Nat.le_refl _) (by omega))])))
theorem rRows.val {v' : Nat → Nat → Nat} (h : rRows S r n v) (hv : ∀ j, j < n → v j = v' j) : rRows S r n v' := ⟨h.1, fun e he j hj => by
  rw [h.2 e he j hj]
  by_cases hjn : j < n
  · rw [hv j hjn]
  · simp [hjn]⟩
theorem C_Rows_cutTo {t : Nat} (hT : tRows sh r) (hR : rRows S r n v) (hn : n ≤ 128) (ht : t ≤ 128) : zN G m_Rows_cutTo 3 sh [.ref r, .int (nI t)] S none (fun S' => frS S (inRows r) S' ∧ rRows S' r (min t n) v) := by
  refine s_meth 1 ⟨p_Rows, rfl, Nat.le_of_ble_eq_true rfl⟩ rfl (fun sz => ?_)
  refine z_iload_n dX5_cutTo_0 rfl ?_
  refine z_aload_n dX5_cutTo_1 rfl ?_
  refine s_geti f_Rows_17 dX5_cutTo_2 hT.1 rfl ?_
  refine z_icmp_lt 9 dX5_cutTo_5 (by decide) (fun c5 => ?_) (fun c5 => ?_)
  · rw [show zi S r 1 = nI n from hR.1] at c5
    have htn : t < n := (nI_ltI (by omega) (by omega)).mp c5
    refine z_iconst 0 dX5_cutTo_9 rfl ?_
    refine z_istore_n (lv' := [_, _, _]) dX5_cutTo_10 (by decide) rfl ?_
    refine L_cutTo hT ht (fun S' h => ?_) 80 0 _ rfl (by decide) ⟨lgS.rf, fun e he => absurd he (Nat.not_lt_zero _), fun e _ _ => rfl⟩
    refine z_aload_n dX5_cutTo_33 rfl ?_
    refine z_iload_n dX5_cutTo_34 rfl ?_
    refine s_puti f_Rows_17 dX5_cutTo_35 hT.1 rfl ⟨rfl, rfl⟩ ?_
    refine z_return dX5_cutTo_38 rfl ⟨Nat.le_refl _, Nat.le_refl _⟩ ⟨rfl, _, rfl, rfl, ?_, ?_, fun e he j hj => ?_⟩
    · exact (h.1.fr.weaken (fun b hb => (show r ≤ b ∧ b < r + 82 by omega))).trans (frS.seti (show r ≤ r ∧ r < r + 82 by omega))
    · show zup _ r 1 _ r 1 = _
      rw [zup_same, Nat.min_eq_left (Nat.le_of_lt htn)]
    · rw [show bq (zsi S' r 1 _) (r + 2 + e) j = bq S' (r + 2 + e) j from rfl, h.2.1 e he j hj]
      show (bq S (r + 2 + e) j && decide (j < t)) = _
      rw [hR.2 e he j hj, Nat.min_eq_left (Nat.le_of_lt htn)]
      by_cases hj2 : j < t
      · simp [hj2, show j < n by omega]
      · simp [hj2]
  · rw [show zi S r 1 = nI n from hR.1] at c5
    have htn : n ≤ t := by
      rcases Nat.lt_or_ge t n with q | q
      · exact absurd (nI_lt q (by omega)) c5
      · exact q
    refine z_return dX5_cutTo_8 rfl ⟨Nat.le_refl _, Nat.le_refl _⟩ ?_
    exact ⟨rfl, _, rfl, rfl, frS.rf, by rw [Nat.min_eq_right htn]; exact hR⟩
theorem L_become {F : zFin} {sz : Nat} {S0 : zSt} (hT : tRows sh r) (hO : tRows sh o) (hro : o + 82 ≤ r ∨ r + 82 ≤ o)
    (kk : ∀ S', bitsS S0 r 80 (fun e j => bq S0 (o + 2 + e) j) S' → zW G m_Rows_become (zRm (2) 0 0) F 0 0 29 [some (.ref r), some (.ref o), some (.int (nI 80))] [] (zhp sh S') sz) :
    ∀ d i S, 80 - i = d → i ≤ 80 → bitsS S0 r i (fun e j => bq S0 (o + 2 + e) j) S → zW G m_Rows_become (zRm (2) 0 0) F 0 0 2 [some (.ref r), some (.ref o), some (.int (nI i))] [] (zhp sh S) sz := by
  obtain ⟨t1, t2, t3⟩ := hT
  obtain ⟨o1, o2, o3⟩ := hO
  intro d
  induction d with
  | zero =>
    intro i S h1 h2 h3
    have hi : i = 80 := by omega
    subst hi
    refine z_iload_n dX5_become_2 rfl ?_
    refine z_bipush 80 dX5_become_3 (by decide) ?_
    refine z_icmp_ge 29 dX5_become_5 (by decide) (fun c5 => ?_) (fun c5 => ?_)
    · exact kk S h3
    · exact absurd (nI_le (a := 80) (b := 80) (Nat.le_refl _) (by decide)) c5
  | succ d ih =>
    intro i S h1 h2 h3
    refine z_iload_n dX5_become_2 rfl ?_
    refine z_bipush 80 dX5_become_3 (by decide) ?_
    refine z_icmp_ge 29 dX5_become_5 (by decide) (fun c5 => ?_) (fun c5 => ?_)
    · exact absurd c5 (nI_ge (b := 80) (by omega) (by decide))
    · refine z_aload_n dX5_become_8 rfl ?_
      refine s_getr f_Rows_11 dX5_become_9 t1 rfl ?_
      refine z_iload_n dX5_become_12 rfl ?_
      refine s_aald (by decide) dX5_become_13 t2 (vp_in_nI (by omega) (by omega)) (by rw [nI_clamp (by omega)]; exact if_pos (by omega)) ?_
      refine z_aload_n dX5_become_14 rfl ?_
      refine s_getr f_Rows_11 dX5_become_15 o1 rfl ?_
      refine z_iload_n dX5_become_18 rfl ?_
      refine s_aald (by decide) dX5_become_19 o2 (vp_in_nI (by omega) (by omega)) (by rw [nI_clamp (by omega)]; exact if_pos (by omega)) ?_
      refine n_callV0 l_Rows_49 (C_Bits_become (t3 _ (by omega)) (o3 _ (by omega))) (t3 _ (by omega)) dX5_become_20 rfl rfl (Nat.le_of_ble_eq_true rfl) ⟨⟨by decide, by decide⟩, by decide, by decide⟩ (fun S20 q20 => ?_)
      refine z_iinc (lv' := [_, _, _]) 1 dX5_become_23 rfl (by decide) rfl rfl ?_
      refine z_goto 2 dX5_become_26 (by decide) ?_
      rw [nI_1]
      exact ih (i + 1) _ (by omega) (by omega) (h3.one (by omega) (bqS_fun q20 (fun j hj => by rw [bq_lg (h3.1.2.2.2 _ (by omega))])))
theorem C_Rows_become (hT : tRows sh r) (hO : tRows sh o) (hro : o + 82 ≤ r ∨ r + 82 ≤ o) (hR : rRows S o n v) : zN G m_Rows_become 2 sh [.ref r, .ref o] S none (fun S' => frS S (inRows r) S' ∧ rRows S' r n v) := by
  refine s_meth 1 ⟨p_Rows, rfl, Nat.le_of_ble_eq_true rfl⟩ rfl (fun sz => ?_)
  refine z_iconst 0 dX5_become_0 rfl ?_
  refine z_istore_n (lv' := [_, _, _]) dX5_become_1 (by decide) rfl ?_
  refine L_become hT hO hro (fun S' h => ?_) 80 0 _ rfl (by decide) ⟨lgS.rf, fun e he => absurd he (Nat.not_lt_zero _), fun e _ _ => rfl⟩
  have hz : zi S' o 1 = nI n := by rw [← hR.1]; exact congrFun (congrFun h.1.1 o) 1
  refine z_aload_n dX5_become_29 rfl ?_
  refine z_aload_n dX5_become_30 rfl ?_
  refine s_geti f_Rows_17 dX5_become_31 hO.1 rfl ?_
  refine s_puti f_Rows_17 dX5_become_34 hT.1 rfl ⟨rfl, rfl⟩ ?_
  refine z_return dX5_become_37 rfl ⟨Nat.le_refl _, Nat.le_refl _⟩ ⟨rfl, _, rfl, rfl, ?_, ?_, fun e he j hj => ?_⟩
  · exact (h.1.fr.weaken (fun b hb => (show r ≤ b ∧ b < r + 82 by omega))).trans (frS.seti (show r ≤ r ∧ r < r + 82 by omega))
  · show zup _ r 1 _ r 1 = _
    rw [zup_same]; exact hz
  · rw [show bq (zsi S' r 1 _) (r + 2 + e) j = bq S' (r + 2 + e) j from rfl, h.2.1 e he j hj]
    exact hR.2 e he j hj
/-- bits of a column's kind k, of the rows below n -/
def kbits (v : Nat → Nat → Nat) (c k : Nat) : Nat → Bool := fun j => kb k (v j c)
theorem rRows.runs (hR : rRows S r n v) (hn : n ≤ 128) (hc : c < 4) (hk : k < 20) : runsN (bq S (r + 2 + (c * 20 + k))) n = runsN (kbits v c k) n := runsN_cong (fun j hj => by
  rw [hR.2 _ (by omega) j (by omega), kq_at _ hk]
  simp [hj, kbits])
def slN (v : Nat → Nat → Nat) (n c : Nat) : Nat → Nat := fb_sm (fun k => runsN (kbits v c (16 + k)) n)
theorem L_slices {F : zFin} {sz : Nat} (hT : tRows sh r) (hR : rRows S r n v) (hn : n ≤ 128) (hc : c < 4) (kk : zW G m_Rows_runsOfSlices (zRm (3) 0 0) F 0 0 34 [some (.ref r), some (.int (nI c)), some (.int (nI (slN v n c 4))), some (.int (nI 4))] [] (zhp sh S) sz) :
    ∀ d i, 4 - i = d → i ≤ 4 → zW G m_Rows_runsOfSlices (zRm (3) 0 0) F 0 0 4 [some (.ref r), some (.int (nI c)), some (.int (nI (slN v n c i))), some (.int (nI i))] [] (zhp sh S) sz := by
  intro d
  induction d with
  | zero =>
    intro i h1 h2
    have hi : i = 4 := by omega
    subst hi
    refine z_iload_n dX5_runsOfSlices_4 rfl ?_
    refine z_iconst 4 dX5_runsOfSlices_5 rfl ?_
    refine z_icmp_ge 34 dX5_runsOfSlices_6 (by decide) (fun c6 => ?_) (fun c6 => ?_)
    · exact kk
    · exact absurd (nI_le (a := 4) (b := 4) (Nat.le_refl _) (by decide)) c6
  | succ d ih =>
    intro i h1 h2
    refine z_iload_n dX5_runsOfSlices_4 rfl ?_
    refine z_iconst 4 dX5_runsOfSlices_5 rfl ?_
    refine z_icmp_ge 34 dX5_runsOfSlices_6 (by decide) (fun c6 => ?_) (fun c6 => ?_)
    · exact absurd c6 (nI_ge (b := 4) (by omega) (by decide))
    · refine z_iload_n dX5_runsOfSlices_9 rfl ?_
      refine z_aload_n dX5_runsOfSlices_10 rfl ?_
      refine z_iload_n dX5_runsOfSlices_11 rfl ?_
      refine z_bipush 16 dX5_runsOfSlices_12 (by decide) ?_
      refine z_iload_n dX5_runsOfSlices_14 rfl ?_
      refine z_iadd dX5_runsOfSlices_15 ?_
      rw [show (16 : Int32) = nI 16 from rfl, nI_add]
      refine s_callV1 l_Rows_22 (C_Rows_bitsOf hT hc (by omega)) hT.1 dX5_runsOfSlices_16 rfl rfl (Nat.le_of_ble_eq_true rfl) ⟨⟨by decide, by decide⟩, by decide, by decide⟩ ?_
      refine z_aload_n dX5_runsOfSlices_19 rfl ?_
      refine s_geti f_Rows_17 dX5_runsOfSlices_20 hT.1 rfl ?_
      rw [show zi S r 1 = nI n from hR.1]
      refine s_callV1 l_Rows_53 (C_Bits_runsWithin (hT.2.2 _ (by omega)) hn) (hT.2.2 _ (by omega)) dX5_runsOfSlices_23 rfl rfl (Nat.le_of_ble_eq_true rfl) ⟨⟨by decide, by decide⟩, by decide, by decide⟩ ?_
      refine z_iadd dX5_runsOfSlices_26 ?_
      refine z_istore_n (lv' := [_, _, _, _]) dX5_runsOfSlices_27 (by decide) rfl ?_
      refine z_iinc (lv' := [_, _, _, _]) 1 dX5_runsOfSlices_28 rfl (by decide) rfl rfl ?_
      refine z_goto 4 dX5_runsOfSlices_31 (by decide) ?_
      rw [nI_1, nI_add, hR.runs hn hc (by omega)]
      exact ih (i + 1) (by omega) (by omega)
theorem C_Rows_runsOfSlices (hT : tRows sh r) (hR : rRows S r n v) (hn : n ≤ 128) (hc : c < 4) : zD G m_Rows_runsOfSlices 3 sh [.ref r, .int (nI c)] S (some (.int (nI (slN v n c 4)))) S := by
  refine s_methD 2 ⟨p_Rows, rfl, Nat.le_of_ble_eq_true rfl⟩ rfl (fun sz => ?_)
  refine z_iconst 0 dX5_runsOfSlices_0 rfl ?_
  refine z_istore_n (lv' := [_, _, _, _]) dX5_runsOfSlices_1 (by decide) rfl ?_
  refine z_iconst 0 dX5_runsOfSlices_2 rfl ?_
  refine z_istore_n (lv' := [_, _, _, _]) dX5_runsOfSlices_3 (by decide) rfl ?_
  refine L_slices hT hR hn hc ?_ 4 0 rfl (by decide)
  refine z_iload_n dX5_runsOfSlices_34 rfl ?_
  refine z_ireturn dX5_runsOfSlices_35 rfl rfl ⟨Nat.le_refl _, Nat.le_refl _⟩ ?_
  exact ⟨rfl, rfl, rfl⟩
end ROWS

