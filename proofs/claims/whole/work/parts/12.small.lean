/-! ===== Pairs, Tape, Query: the small ones; Math.max, Arrays.fill ===== -/
abbrev fNo : Nat → Option Nat := fun _ => none
def tPairs (sh : Nat → Option zSh) (a n : Nat) : Prop := sh a = some (.inl (2, [none, some (some (a + 1)), some (some (a + 2)), none])) ∧ sh (a + 1) = some (.inr (0, n, fNo)) ∧ sh (a + 2) = some (.inr (0, n, fNo))
def tTape (sh : Nat → Option zSh) (t : Nat) : Prop := sh t = some (.inl (7, [some (some (t + 1)), none, none])) ∧ sh (t + 1) = some (.inr (1, 60, fNo))
def tQuery (sh : Nat → Option zSh) (q : Nat) : Prop := sh q = some (.inl (3, [some (some (q + 1)), some (some (q + 2)), some (some (q + 3)), some (some (q + 4)), none])) ∧ sh (q + 1) = some (.inr (2, 50, fNo)) ∧ sh (q + 2) = some (.inr (2, 50, fNo)) ∧ sh (q + 3) = some (.inr (2, 50, fNo)) ∧ sh (q + 4) = some (.inr (2, 50, fNo))
theorem cpy_in {α : Type} {f g : Nat → α} {n i : Nat} (h : i < n) : va_cpy f g 0 0 n i = f i := by
  unfold va_cpy
  rw [if_pos ⟨Nat.zero_le _, by omega⟩]
  congr 1
  omega
section SMALL
variable {G : zG} {sh : Nat → Option zSh} {S : zSt} {a o t q n c k j : Nat}
theorem C_Pairs_full {x y : Int32} (hT : tPairs sh a n) (h0 : zi S a 0 = nI n) (h3 : zi S a 3 = nI n) (hn : n < 2 ^ 31) : zD G m_Pairs_append 1 sh [.ref a, .int x, .int y] S (some (.int (-4))) S := by
  obtain ⟨t1, t2, t3⟩ := hT
  refine s_methD 0 ⟨p_Pairs, rfl, Nat.le_of_ble_eq_true rfl⟩ rfl (fun sz => ?_)
  refine z_aload_n dX2_append_0 rfl ?_
  refine s_geti f_Pairs_9 dX2_append_1 (by assumption) rfl ?_
  refine z_aload_n dX2_append_4 rfl ?_
  refine s_geti f_Pairs_15 dX2_append_5 (by assumption) rfl ?_
  refine z_icmp_lt 14 dX2_append_8 (by decide) (fun c8 => ?_) (fun c8 => ?_)
  · rw [h0, h3] at c8
    exact absurd c8 (nI_nlt (Nat.le_refl _) hn)
  · refine z_bipush (-4) dX2_append_11 (by decide) ?_
    refine z_ireturn dX2_append_13 rfl rfl ⟨Nat.le_refl _, Nat.le_refl _⟩ ?_
    exact ⟨rfl, rfl, rfl⟩
theorem C_Pairs_app {x y : Int32} (hT : tPairs sh a n) (h0 : zi S a 0 = nI n) (h3 : zi S a 3 = nI c) (hn : n < 2 ^ 31) (hc : c < n) : zD G m_Pairs_append 1 sh [.ref a, .int x, .int y] S (some (.int (nI (c + 1)))) (zsi (zsa (zsa S (a + 1) c x) (a + 2) c y) a 3 (nI (c + 1))) := by
  obtain ⟨t1, t2, t3⟩ := hT
  refine s_methD 0 ⟨p_Pairs, rfl, Nat.le_of_ble_eq_true rfl⟩ rfl (fun sz => ?_)
  refine z_aload_n dX2_append_0 rfl ?_
  refine s_geti f_Pairs_9 dX2_append_1 (by assumption) rfl ?_
  refine z_aload_n dX2_append_4 rfl ?_
  refine s_geti f_Pairs_15 dX2_append_5 (by assumption) rfl ?_
  refine z_icmp_lt 14 dX2_append_8 (by decide) (fun c8 => ?_) (fun c8 => ?_)
  · refine z_aload_n dX2_append_14 rfl ?_
    refine s_getr f_Pairs_18 dX2_append_15 (by assumption) rfl ?_
    refine z_aload_n dX2_append_18 rfl ?_
    refine s_geti f_Pairs_9 dX2_append_19 (by assumption) rfl ?_
    refine z_iload_n dX2_append_22 rfl ?_
    rw [h3]
    refine s_iast dX2_append_23 t2 (vp_in_nI hc hn) ?_
    refine z_aload_n dX2_append_24 rfl ?_
    refine s_getr f_Pairs_22 dX2_append_25 (by assumption) rfl ?_
    refine z_aload_n dX2_append_28 rfl ?_
    refine s_geti f_Pairs_9 dX2_append_29 (by assumption) rfl ?_
    refine z_iload_n dX2_append_32 rfl ?_
    rw [h3]
    refine s_iast dX2_append_33 t3 (vp_in_nI hc hn) ?_
    refine z_aload_n dX2_append_34 rfl ?_
    refine z_dup dX2_append_35 rfl ?_
    refine s_geti f_Pairs_9 dX2_append_36 (by assumption) rfl ?_
    rw [nI_clamp (by omega)]
    refine z_iconst 1 dX2_append_39 rfl ?_
    refine z_iadd dX2_append_40 ?_
    rw [h3, nI_1]
    refine s_puti f_Pairs_9 dX2_append_41 (by assumption) rfl ⟨rfl, rfl⟩ ?_
    refine z_aload_n dX2_append_44 rfl ?_
    refine s_geti f_Pairs_9 dX2_append_45 (by assumption) rfl ?_
    rw [zi_si]
    refine z_ireturn dX2_append_48 rfl rfl ⟨Nat.le_refl _, Nat.le_refl _⟩ ?_
    exact ⟨rfl, rfl, rfl⟩
  · rw [h0, h3] at c8
    exact absurd (nI_lt hc hn) c8
theorem C_Pairs_become (hT : tPairs sh a n) (hO : tPairs sh o n) (hao : a + 3 ≤ o ∨ o + 3 ≤ a) (h0 : zi S a 0 = nI n) (hn : n < 2 ^ 31) : zN G m_Pairs_become 1 sh [.ref a, .ref o] S none (fun S' => frS S (fun b => a ≤ b ∧ b < a + 3) S' ∧ zi S' a 0 = zi S a 0 ∧ zi S' a 3 = zi S o 3 ∧ ∀ i, i < n → za S' (a + 1) i = za S (o + 1) i ∧ za S' (a + 2) i = za S (o + 2) i) := by
  obtain ⟨t1, t2, t3⟩ := hT
  obtain ⟨o1, o2, o3⟩ := hO
  have hok : zCopyOk n n 0 0 (nI n) := by
    refine ⟨⟨by decide, by decide, nI_pos hn⟩, ?_, ?_⟩ <;> (rw [nI_clamp hn]; show 0 + n ≤ n; omega)
  refine s_meth 0 ⟨p_Pairs, rfl, Nat.le_of_ble_eq_true rfl⟩ rfl (fun sz => ?_)
  refine z_aload_n dX2_become_0 rfl ?_
  refine s_getr f_Pairs_18 dX2_become_1 o1 rfl ?_
  refine z_iconst 0 dX2_become_4 rfl ?_
  refine z_aload_n dX2_become_5 rfl ?_
  refine s_getr f_Pairs_18 dX2_become_6 t1 rfl ?_
  refine z_iconst 0 dX2_become_9 rfl ?_
  refine z_aload_n dX2_become_10 rfl ?_
  refine s_geti f_Pairs_15 dX2_become_11 t1 rfl ?_
  rw [h0]
  refine s_copyi j_Pairs_25 dX2_become_14 o2 t2 hok ⟨by decide, Nat.le_of_ble_eq_true rfl⟩ ?_
  refine z_aload_n dX2_become_17 rfl ?_
  refine s_getr f_Pairs_22 dX2_become_18 o1 rfl ?_
  refine z_iconst 0 dX2_become_21 rfl ?_
  refine z_aload_n dX2_become_22 rfl ?_
  refine s_getr f_Pairs_22 dX2_become_23 t1 rfl ?_
  refine z_iconst 0 dX2_become_26 rfl ?_
  refine z_aload_n dX2_become_27 rfl ?_
  refine s_geti f_Pairs_15 dX2_become_28 t1 rfl ?_
  rw [h0]
  refine s_copyi j_Pairs_25 dX2_become_31 o3 t3 hok ⟨by decide, Nat.le_of_ble_eq_true rfl⟩ ?_
  refine z_aload_n dX2_become_34 rfl ?_
  refine z_aload_n dX2_become_35 rfl ?_
  refine s_geti f_Pairs_9 dX2_become_36 o1 rfl ?_
  refine s_puti f_Pairs_9 dX2_become_39 t1 rfl ⟨rfl, rfl⟩ ?_
  refine z_return dX2_become_42 rfl ⟨Nat.le_refl _, Nat.le_refl _⟩ ?_
  rw [nI_clamp hn]
  refine ⟨rfl, _, rfl, rfl, fun b hb => ⟨zup_off (fun e => hb (by omega)), rfl, ?_, rfl⟩, (zi_sik (show (0 : Nat) ≠ 3 by decide)).trans h0, zi_si, fun i hi => ⟨?_, ?_⟩⟩
  · show zrow (zrow S.2.2.1 (a + 1) _) (a + 2) _ b = _
    rw [zrow_off (fun e => hb (by omega)), zrow_off (fun e => hb (by omega))]
  · show zrow (zrow S.2.2.1 (a + 1) _) (a + 2) _ (a + 1) i = _
    rw [zrow_off (by omega), zrow_on]
    exact cpy_in hi
  · show zrow (zrow S.2.2.1 (a + 1) _) (a + 2) _ (a + 2) i = _
    rw [zrow_on]
    refine (cpy_in hi).trans ?_
    show zrow S.2.2.1 (a + 1) _ (o + 2) i = _
    rw [zrow_off (by omega)]
/-- items below i are v, the others and all else as they were -/
def fillS (S : zSt) (a i : Nat) (v : Int64) (S' : zSt) : Prop := S'.1 = S.1 ∧ S'.2.1 = S.2.1 ∧ S'.2.2.1 = S.2.2.1 ∧ (∀ b, b ≠ a → S'.2.2.2 b = S.2.2.2 b) ∧ ∀ j, j < i → S'.2.2.2 a j = v
theorem L_fill {F : zFin} {sz : Nat} {x : Int64} {S0 : zSt} (ha : sh a = some (.inr (1, n, fNo))) (hn : n < 2 ^ 31)
    (kk : ∀ S', fillS S0 a n x S' → zW G m_JArr_fill (zRm (1) 0 0) F 0 0 22 [some (.ref a), some (.long x), none, some (.int (nI n)), some (.int (nI n))] [] (zhp sh S') sz) :
    ∀ d i S, n - i = d → i ≤ n → fillS S0 a i x S → zW G m_JArr_fill (zRm (1) 0 0) F 0 0 6 [some (.ref a), some (.long x), none, some (.int (nI i)), some (.int (nI n))] [] (zhp sh S) sz := by
  intro d
  induction d with
  | zero =>
    intro i S h1 h2 h3
    have hp : i = n := by omega
    subst hp
    refine z_iload_n dJ7_fill_d0a16_6 rfl ?_
    refine z_iload dJ7_fill_d0a16_7 rfl ?_
    refine z_icmp_ge 22 dJ7_fill_d0a16_9 (by decide) (fun c9 => ?_) (fun c9 => ?_)
    · exact kk S h3
    · exact absurd (nI_le (Nat.le_refl _) hn) c9
  | succ d ih =>
    intro i S h1 h2 h3
    refine z_iload_n dJ7_fill_d0a16_6 rfl ?_
    refine z_iload dJ7_fill_d0a16_7 rfl ?_
    refine z_icmp_ge 22 dJ7_fill_d0a16_9 (by decide) (fun c9 => ?_) (fun c9 => ?_)
    · exact absurd c9 (nI_ge (by omega) hn)
    · refine z_aload_n dJ7_fill_d0a16_12 rfl ?_
      refine z_iload_n dJ7_fill_d0a16_13 rfl ?_
      refine z_lload_n dJ7_fill_d0a16_14 rfl ?_
      refine s_last dJ7_fill_d0a16_15 ha (vp_in_nI (by omega) hn) ?_
      refine z_iinc (lv' := [_, _, _, _, _]) 1 dJ7_fill_d0a16_16 rfl (by decide) rfl rfl ?_
      refine z_goto 6 dJ7_fill_d0a16_19 (by decide) ?_
      rw [nI_1, nI_clamp (by omega)]
      refine ih (i + 1) _ (by omega) (by omega) ⟨h3.1, h3.2.1, h3.2.2.1, fun b hb => (zup_off hb).trans (h3.2.2.2.1 b hb), fun j hj => ?_⟩
      by_cases hji : j = i
      · subst hji; exact zup_same
      · exact (zup_ne (fun q => hji q.2)).trans (h3.2.2.2.2 j (by omega))
theorem C_fill {x : Int64} (ha : sh a = some (.inr (1, n, fNo))) (hn : n < 2 ^ 31) : zN G m_JArr_fill 1 sh [.ref a, .long x] S none (fillS S a n x) := by
  refine s_meth 2 ⟨p_JArr, rfl, Nat.le_of_ble_eq_true rfl⟩ rfl (fun sz => ?_)
  refine z_iconst 0 dJ7_fill_d0a16_0 rfl ?_
  refine z_istore_n (lv' := [_, _, _, _, _]) dJ7_fill_d0a16_1 (by decide) rfl ?_
  refine z_aload_n dJ7_fill_d0a16_2 rfl ?_
  refine s_alen _ dJ7_fill_d0a16_3 (by decide) ha (show Int32.ofNat n = nI n from rfl) ?_
  refine z_istore (lv' := [_, _, _, _, _]) dJ7_fill_d0a16_4 (by decide) rfl ?_
  refine L_fill ha hn (fun S' h => ?_) n 0 _ rfl (Nat.zero_le _) ⟨rfl, rfl, rfl, fun _ _ => rfl, fun j hj => absurd hj (Nat.not_lt_zero _)⟩
  refine z_return dJ7_fill_d0a16_22 rfl ⟨Nat.le_refl _, Nat.le_refl _⟩ ⟨rfl, _, rfl, rfl, h⟩
theorem C_Tape_isNothing (hT : tTape sh t) : zD G m_Tape_isNothing 1 sh [.ref t] S (some (.int (zo (decide (zi S t 1 = -1))))) S := by
  obtain ⟨t1, t2⟩ := hT
  refine s_methD 0 ⟨p_Tape, rfl, Nat.le_of_ble_eq_true rfl⟩ rfl (fun sz => ?_)
  refine z_aload_n dX7_isNothing_0 rfl ?_
  refine s_geti f_Tape_15 dX7_isNothing_1 (by assumption) rfl ?_
  refine z_iconst (-1) dX7_isNothing_4 rfl ?_
  refine z_icmp_ne 12 dX7_isNothing_5 (by decide) (fun c5 => ?_) (fun c5 => ?_)
  · rw [decide_eq_false c5]
    refine z_iconst 0 dX7_isNothing_12 rfl ?_
    refine z_ireturn dX7_isNothing_13 rfl rfl ⟨Nat.le_refl _, Nat.le_refl _⟩ ?_
    exact ⟨rfl, rfl, rfl⟩
  · rw [decide_eq_true c5]
    refine z_iconst 1 dX7_isNothing_8 rfl ?_
    refine z_goto 13 dX7_isNothing_9 (by decide) ?_
    refine z_ireturn dX7_isNothing_13 rfl rfl ⟨Nat.le_refl _, Nat.le_refl _⟩ ?_
    exact ⟨rfl, rfl, rfl⟩
theorem C_Tape_hasItem {x : Int32} (hT : tTape sh t) : zD G m_Tape_hasItem 1 sh [.ref t, .int x] S (some (.int (zo (decide (0 ≤ x ∧ x < zi S t 2))))) S := by
  obtain ⟨t1, t2⟩ := hT
  refine s_methD 0 ⟨p_Tape, rfl, Nat.le_of_ble_eq_true rfl⟩ rfl (fun sz => ?_)
  refine z_iload_n dX7_hasItem_0 rfl ?_
  refine z_if_lt 16 dX7_hasItem_1 (by decide) (fun c1 => ?_) (fun c1 => ?_)
  · rw [decide_eq_false (show ¬ (0 ≤ x ∧ x < zi S t 2) from fun q => Int32.not_lt.mpr q.1 c1)]
    refine z_iconst 0 dX7_hasItem_16 rfl ?_
    refine z_ireturn dX7_hasItem_17 rfl rfl ⟨Nat.le_refl _, Nat.le_refl _⟩ ?_
    exact ⟨rfl, rfl, rfl⟩
  · refine z_iload_n dX7_hasItem_4 rfl ?_
    refine z_aload_n dX7_hasItem_5 rfl ?_
    refine s_geti f_Tape_19 dX7_hasItem_6 (by assumption) rfl ?_
    refine z_icmp_ge 16 dX7_hasItem_9 (by decide) (fun c9 => ?_) (fun c9 => ?_)
    · rw [decide_eq_false (show ¬ (0 ≤ x ∧ x < zi S t 2) from fun q => Int32.not_lt.mpr c9 q.2)]
      refine z_iconst 0 dX7_hasItem_16 rfl ?_
      refine z_ireturn dX7_hasItem_17 rfl rfl ⟨Nat.le_refl _, Nat.le_refl _⟩ ?_
      exact ⟨rfl, rfl, rfl⟩
    · rw [decide_eq_true (show (0 ≤ x ∧ x < zi S t 2) from ⟨Int32.not_lt.mp c1, Int32.not_le.mp c9⟩)]
      refine z_iconst 1 dX7_hasItem_12 rfl ?_
      refine z_goto 17 dX7_hasItem_13 (by decide) ?_
      refine z_ireturn dX7_hasItem_17 rfl rfl ⟨Nat.le_refl _, Nat.le_refl _⟩ ?_
      exact ⟨rfl, rfl, rfl⟩
theorem C_Tape_hasStretch {x y : Int32} (hT : tTape sh t) : zD G m_Tape_hasStretch 1 sh [.ref t, .int x, .int y] S (some (.int (zo (decide (0 ≤ y ∧ 0 ≤ x ∧ x ≤ zi S t 2 - y))))) S := by
  obtain ⟨t1, t2⟩ := hT
  refine s_methD 0 ⟨p_Tape, rfl, Nat.le_of_ble_eq_true rfl⟩ rfl (fun sz => ?_)
  refine z_iload_n dX7_hasStretch_0 rfl ?_
  refine z_if_lt 22 dX7_hasStretch_1 (by decide) (fun c1 => ?_) (fun c1 => ?_)
  · rw [decide_eq_false (show ¬ (0 ≤ y ∧ 0 ≤ x ∧ x ≤ zi S t 2 - y) from fun q => Int32.not_lt.mpr q.1 c1)]
    refine z_iconst 0 dX7_hasStretch_22 rfl ?_
    refine z_ireturn dX7_hasStretch_23 rfl rfl ⟨Nat.le_refl _, Nat.le_refl _⟩ ?_
    exact ⟨rfl, rfl, rfl⟩
  · refine z_iload_n dX7_hasStretch_4 rfl ?_
    refine z_if_lt 22 dX7_hasStretch_5 (by decide) (fun c5 => ?_) (fun c5 => ?_)
    · rw [decide_eq_false (show ¬ (0 ≤ y ∧ 0 ≤ x ∧ x ≤ zi S t 2 - y) from fun q => Int32.not_lt.mpr q.2.1 c5)]
      refine z_iconst 0 dX7_hasStretch_22 rfl ?_
      refine z_ireturn dX7_hasStretch_23 rfl rfl ⟨Nat.le_refl _, Nat.le_refl _⟩ ?_
      exact ⟨rfl, rfl, rfl⟩
    · refine z_iload_n dX7_hasStretch_8 rfl ?_
      refine z_aload_n dX7_hasStretch_9 rfl ?_
      refine s_geti f_Tape_19 dX7_hasStretch_10 (by assumption) rfl ?_
      refine z_iload_n dX7_hasStretch_13 rfl ?_
      refine z_isub dX7_hasStretch_14 ?_
      refine z_icmp_gt 22 dX7_hasStretch_15 (by decide) (fun c15 => ?_) (fun c15 => ?_)
      · rw [decide_eq_false (show ¬ (0 ≤ y ∧ 0 ≤ x ∧ x ≤ zi S t 2 - y) from fun q => Int32.not_lt.mpr q.2.2 c15)]
        refine z_iconst 0 dX7_hasStretch_22 rfl ?_
        refine z_ireturn dX7_hasStretch_23 rfl rfl ⟨Nat.le_refl _, Nat.le_refl _⟩ ?_
        exact ⟨rfl, rfl, rfl⟩
      · rw [decide_eq_true (show (0 ≤ y ∧ 0 ≤ x ∧ x ≤ zi S t 2 - y) from ⟨Int32.not_lt.mp c1, Int32.not_lt.mp c5, Int32.not_lt.mp c15⟩)]
        refine z_iconst 1 dX7_hasStretch_18 rfl ?_
        refine z_goto 23 dX7_hasStretch_19 (by decide) ?_
        refine z_ireturn dX7_hasStretch_23 rfl rfl ⟨Nat.le_refl _, Nat.le_refl _⟩ ?_
        exact ⟨rfl, rfl, rfl⟩
theorem C_Tape_become {x y : Int32} (hT : tTape sh t) : zN G m_Tape_become 2 sh [.ref t, .int x, .int y] S none (fun S' => frS S (fun b => t ≤ b ∧ b < t + 2) S' ∧ zi S' t 1 = x ∧ zi S' t 2 = y ∧ ∀ j, j < 60 → zj S' (t + 1) j = 0) := by
  obtain ⟨t1, t2⟩ := hT
  refine s_meth 0 ⟨p_Tape, rfl, Nat.le_of_ble_eq_true rfl⟩ rfl (fun sz => ?_)
  refine z_aload_n dX7_become_0 rfl ?_
  refine s_getr f_Tape_9 dX7_become_1 (by assumption) rfl ?_
  refine z_lconst 0 dX7_become_4 (by decide) ?_
  refine n_callS0 l_Tape_22 (C_fill t2 (by decide)) dX7_become_5 rfl rfl (Nat.le_of_ble_eq_true rfl) ⟨⟨by decide, by decide⟩, by decide, by decide⟩ (fun S5 q5 => ?_)
  refine z_aload_n dX7_become_8 rfl ?_
  refine z_iload_n dX7_become_9 rfl ?_
  refine s_puti f_Tape_15 dX7_become_10 t1 rfl ⟨rfl, rfl⟩ ?_
  refine z_aload_n dX7_become_13 rfl ?_
  refine z_iload_n dX7_become_14 rfl ?_
  refine s_puti f_Tape_19 dX7_become_15 t1 rfl ⟨rfl, rfl⟩ ?_
  refine z_return dX7_become_18 rfl ⟨Nat.le_refl _, Nat.le_refl _⟩ ?_
  refine ⟨rfl, _, rfl, rfl, fun b hb => ⟨?_, by rw [← q5.2.1], by rw [← q5.2.2.1], q5.2.2.2.1 b (fun e => hb (by omega))⟩, (zi_sik (by decide)).trans zi_si, zi_si, fun j hj => q5.2.2.2.2 j hj⟩
  show zup (zup S5.1 t 1 x) t 2 y b = _
  rw [zup_off (fun e => hb (by omega)), zup_off (fun e => hb (by omega)), q5.1]
/-- what an item of sort k keeps of a long -/
def fitv (k : Nat) (x : Int64) : Int64 := if k = 0 then x.toInt32.toInt8.toInt32.toInt64 else if k = 1 then x.toInt32.toInt16.toInt32.toInt64 else if k = 2 then x.toInt32.toInt64 else if k = 4 then (if x = 0 then 0 else 1) else x
theorem C_Tape_put {x : Int64} (hT : tTape sh t) (h1 : zi S t 1 = nI k) (hk : k < 5) (hj : j < 60) : zD G m_Tape_put 1 sh [.ref t, .int (nI j), .long x] S none (zsj S (t + 1) j (fitv k x)) := by
  obtain ⟨t1, t2⟩ := hT
  have cl : (nI j).toNatClampNeg = j := nI_clamp (by omega)
  have ik : ∀ i, i < 5 → nI k = nI i → k = i := fun i hi h => (nI_eq (by omega) (by omega)).mp h
  refine s_methD 0 ⟨p_Tape, rfl, Nat.le_of_ble_eq_true rfl⟩ rfl (fun sz => ?_)
  refine z_aload_n dX7_put_0 rfl ?_
  refine s_geti f_Tape_15 dX7_put_1 (by assumption) rfl ?_
  rw [h1]
  refine z_table 0 [40, 53, 66, 98, 78] 98 dX7_put_4 (by decide) ⟨fun c4 => ?_, fun c4 => ?_, fun c4 => ?_, fun c4 => ?_, fun c4 => ?_, trivial⟩ (fun c4 => ?_)
  · have hk0 : k = 0 := ik 0 (by decide) c4
    refine z_aload_n dX7_put_40 rfl ?_
    refine s_getr f_Tape_9 dX7_put_41 (by assumption) rfl ?_
    refine z_iload_n dX7_put_44 rfl ?_
    refine z_lload_n dX7_put_45 rfl ?_
    refine z_l2i dX7_put_46 ?_
    refine z_i2b dX7_put_47 ?_
    refine z_i2l dX7_put_48 ?_
    refine s_last dX7_put_49 t2 (vp_in_nI hj (by decide)) ?_
    refine z_goto 105 dX7_put_50 (by decide) ?_
    refine z_return dX7_put_105 rfl ⟨Nat.le_refl _, Nat.le_refl _⟩ ?_
    refine ⟨rfl, ?_, rfl⟩
    rw [cl]
    first
      | (subst hk0; rfl)
      | (subst hk0; rw [show fitv 4 x = 1 from if_neg hx]; done)
      | (subst hk0; rw [show fitv 4 x = 0 from if_pos hx]; done)
  · have hk0 : k = 1 := ik 1 (by decide) c4
    refine z_aload_n dX7_put_53 rfl ?_
    refine s_getr f_Tape_9 dX7_put_54 (by assumption) rfl ?_
    refine z_iload_n dX7_put_57 rfl ?_
    refine z_lload_n dX7_put_58 rfl ?_
    refine z_l2i dX7_put_59 ?_
    refine z_i2s dX7_put_60 ?_
    refine z_i2l dX7_put_61 ?_
    refine s_last dX7_put_62 t2 (vp_in_nI hj (by decide)) ?_
    refine z_goto 105 dX7_put_63 (by decide) ?_
    refine z_return dX7_put_105 rfl ⟨Nat.le_refl _, Nat.le_refl _⟩ ?_
    refine ⟨rfl, ?_, rfl⟩
    rw [cl]
    first
      | (subst hk0; rfl)
      | (subst hk0; rw [show fitv 4 x = 1 from if_neg hx]; done)
      | (subst hk0; rw [show fitv 4 x = 0 from if_pos hx]; done)
  · have hk0 : k = 2 := ik 2 (by decide) c4
    refine z_aload_n dX7_put_66 rfl ?_
    refine s_getr f_Tape_9 dX7_put_67 (by assumption) rfl ?_
    refine z_iload_n dX7_put_70 rfl ?_
    refine z_lload_n dX7_put_71 rfl ?_
    refine z_l2i dX7_put_72 ?_
    refine z_i2l dX7_put_73 ?_
    refine s_last dX7_put_74 t2 (vp_in_nI hj (by decide)) ?_
    refine z_goto 105 dX7_put_75 (by decide) ?_
    refine z_return dX7_put_105 rfl ⟨Nat.le_refl _, Nat.le_refl _⟩ ?_
    refine ⟨rfl, ?_, rfl⟩
    rw [cl]
    first
      | (subst hk0; rfl)
      | (subst hk0; rw [show fitv 4 x = 1 from if_neg hx]; done)
      | (subst hk0; rw [show fitv 4 x = 0 from if_pos hx]; done)
  · have hk0 : k = 3 := ik 3 (by decide) c4
    refine z_aload_n dX7_put_98 rfl ?_
    refine s_getr f_Tape_9 dX7_put_99 (by assumption) rfl ?_
    refine z_iload_n dX7_put_102 rfl ?_
    refine z_lload_n dX7_put_103 rfl ?_
    refine s_last dX7_put_104 t2 (vp_in_nI hj (by decide)) ?_
    refine z_return dX7_put_105 rfl ⟨Nat.le_refl _, Nat.le_refl _⟩ ?_
    refine ⟨rfl, ?_, rfl⟩
    rw [cl]
    first
      | (subst hk0; rfl)
      | (subst hk0; rw [show fitv 4 x = 1 from if_neg hx]; done)
      | (subst hk0; rw [show fitv 4 x = 0 from if_pos hx]; done)
  · have hk0 : k = 4 := ik 4 (by decide) c4
    refine z_aload_n dX7_put_78 rfl ?_
    refine s_getr f_Tape_9 dX7_put_79 (by assumption) rfl ?_
    refine z_iload_n dX7_put_82 rfl ?_
    refine z_lload_n dX7_put_83 rfl ?_
    refine z_lconst 0 dX7_put_84 (by decide) ?_
    refine z_lcmp dX7_put_85 ?_
    refine z_if_eq 93 dX7_put_86 (by decide) (fun c86 => ?_) (fun c86 => ?_)
    · have hx := lgc0.mp c86
      refine z_lconst 0 dX7_put_93 (by decide) ?_
      refine s_last dX7_put_94 t2 (vp_in_nI hj (by decide)) ?_
      refine z_goto 105 dX7_put_95 (by decide) ?_
      refine z_return dX7_put_105 rfl ⟨Nat.le_refl _, Nat.le_refl _⟩ ?_
      refine ⟨rfl, ?_, rfl⟩
      rw [cl]
      first
        | (subst hk0; rfl)
        | (subst hk0; rw [show fitv 4 x = 1 from if_neg hx]; done)
        | (subst hk0; rw [show fitv 4 x = 0 from if_pos hx]; done)
    · have hx : ¬ x = 0 := fun q => c86 (lgc0.mpr q)
      refine z_lconst 1 dX7_put_89 (by decide) ?_
      refine z_goto 94 dX7_put_90 (by decide) ?_
      refine s_last dX7_put_94 t2 (vp_in_nI hj (by decide)) ?_
      refine z_goto 105 dX7_put_95 (by decide) ?_
      refine z_return dX7_put_105 rfl ⟨Nat.le_refl _, Nat.le_refl _⟩ ?_
      refine ⟨rfl, ?_, rfl⟩
      rw [cl]
      first
        | (subst hk0; rfl)
        | (subst hk0; rw [show fitv 4 x = 1 from if_neg hx]; done)
        | (subst hk0; rw [show fitv 4 x = 0 from if_pos hx]; done)
  · exact absurd rfl (c4 k (Nat.zero_le _) hk)
abbrev bsx (x : Int32) : Int32 := x.toInt8.toInt32
theorem bsx2 (x : Int32) : bsx (bsx x) = bsx x := by simp [bsx]
/-- one more step of a query with c steps -/
def qPush (S : zSt) (q c : Nat) (s x y z : Int32) : zSt := zsi (zsa (zsa (zsa (zsa S (q + 1) c (bsx s)) (q + 2) c (bsx x)) (q + 3) c (bsx y)) (q + 4) c (bsx z)) q 4 (nI (c + 1))
theorem C_Query_leaf {s x y z : Int32} (hT : tQuery sh q) (h0 : zi S q 4 = nI c) (hc : c < 50) : zD G m_Query_appendLeaf 1 sh [.ref q, .int s, .int x, .int y, .int z] S none (qPush S q c s x y z) := by
  obtain ⟨t1, t2, t3, t4, t5⟩ := hT
  have cl : (nI c).toNatClampNeg = c := nI_clamp (by omega)
  refine s_methD 0 ⟨p_Query, rfl, Nat.le_of_ble_eq_true rfl⟩ rfl (fun sz => ?_)
  refine z_aload_n dX3_appendLeaf_0 rfl ?_
  refine s_geti f_Query_24 dX3_appendLeaf_1 (by assumption) rfl ?_
  refine z_bipush 50 dX3_appendLeaf_4 (by decide) ?_
  refine z_icmp_lt 10 dX3_appendLeaf_6 (by decide) (fun c6 => ?_) (fun c6 => ?_)
  · refine z_aload_n dX3_appendLeaf_10 rfl ?_
    refine s_getr f_Query_9 dX3_appendLeaf_11 (by assumption) rfl ?_
    refine z_aload_n dX3_appendLeaf_14 rfl ?_
    refine s_geti f_Query_24 dX3_appendLeaf_15 (by assumption) rfl ?_
    refine z_iload_n dX3_appendLeaf_18 rfl ?_
    refine z_i2b dX3_appendLeaf_19 ?_
    rw [h0]
    refine s_bast dX3_appendLeaf_20 t2 (vp_in_nI hc (by decide)) ?_
    refine z_aload_n dX3_appendLeaf_21 rfl ?_
    refine s_getr f_Query_15 dX3_appendLeaf_22 (by assumption) rfl ?_
    refine z_aload_n dX3_appendLeaf_25 rfl ?_
    refine s_geti f_Query_24 dX3_appendLeaf_26 (by assumption) rfl ?_
    refine z_iload_n dX3_appendLeaf_29 rfl ?_
    refine z_i2b dX3_appendLeaf_30 ?_
    rw [h0, cl]
    refine s_bast dX3_appendLeaf_31 t3 (vp_in_nI hc (by decide)) ?_
    refine z_aload_n dX3_appendLeaf_32 rfl ?_
    refine s_getr f_Query_18 dX3_appendLeaf_33 (by assumption) rfl ?_
    refine z_aload_n dX3_appendLeaf_36 rfl ?_
    refine s_geti f_Query_24 dX3_appendLeaf_37 (by assumption) rfl ?_
    refine z_iload_n dX3_appendLeaf_40 rfl ?_
    refine z_i2b dX3_appendLeaf_41 ?_
    rw [h0, cl]
    refine s_bast dX3_appendLeaf_42 t4 (vp_in_nI hc (by decide)) ?_
    refine z_aload_n dX3_appendLeaf_43 rfl ?_
    refine s_getr f_Query_21 dX3_appendLeaf_44 (by assumption) rfl ?_
    refine z_aload_n dX3_appendLeaf_47 rfl ?_
    refine s_geti f_Query_24 dX3_appendLeaf_48 (by assumption) rfl ?_
    refine z_iload dX3_appendLeaf_51 rfl ?_
    refine z_i2b dX3_appendLeaf_53 ?_
    rw [h0, cl]
    refine s_bast dX3_appendLeaf_54 t5 (vp_in_nI hc (by decide)) ?_
    refine z_aload_n dX3_appendLeaf_55 rfl ?_
    refine z_dup dX3_appendLeaf_56 rfl ?_
    refine s_geti f_Query_24 dX3_appendLeaf_57 (by assumption) rfl ?_
    refine z_iconst 1 dX3_appendLeaf_60 rfl ?_
    refine z_iadd dX3_appendLeaf_61 ?_
    rw [h0, cl, nI_1]
    simp only [show ∀ x : Int32, x.toInt8.toInt32.toInt8.toInt32 = x.toInt8.toInt32 from bsx2]
    refine s_puti f_Query_24 dX3_appendLeaf_62 (by assumption) rfl ⟨rfl, rfl⟩ ?_
    refine z_return dX3_appendLeaf_65 rfl ⟨Nat.le_refl _, Nat.le_refl _⟩ ?_
    exact ⟨rfl, rfl, rfl⟩
  · rw [show zi S q 4 = nI c from h0] at c6
    exact absurd (nI_lt (b := 50) hc (by decide)) c6
theorem C_Query_leafF {s x y z : Int32} (hT : tQuery sh q) (h0 : zi S q 4 = nI 50) : zD G m_Query_appendLeaf 1 sh [.ref q, .int s, .int x, .int y, .int z] S none S := by
  obtain ⟨t1, t2, t3, t4, t5⟩ := hT
  refine s_methD 0 ⟨p_Query, rfl, Nat.le_of_ble_eq_true rfl⟩ rfl (fun sz => ?_)
  refine z_aload_n dX3_appendLeaf_0 rfl ?_
  refine s_geti f_Query_24 dX3_appendLeaf_1 (by assumption) rfl ?_
  refine z_bipush 50 dX3_appendLeaf_4 (by decide) ?_
  refine z_icmp_lt 10 dX3_appendLeaf_6 (by decide) (fun c6 => ?_) (fun c6 => ?_)
  · rw [show zi S q 4 = nI 50 from h0] at c6
    exact absurd c6 (by decide)
  · refine z_return dX3_appendLeaf_9 rfl ⟨Nat.le_refl _, Nat.le_refl _⟩ ?_
    exact ⟨rfl, rfl, rfl⟩
theorem C_Query_join {s : Int32} (hT : tQuery sh q) (h0 : zi S q 4 = nI c) (hc : c < 50) : zD G m_Query_appendJoin 2 sh [.ref q, .int s] S none (qPush S q c s 0 0 0) := by
  refine s_methD 0 ⟨p_Query, rfl, Nat.le_of_ble_eq_true rfl⟩ rfl (fun sz => ?_)
  refine z_aload_n dX3_appendJoin_0 rfl ?_
  refine z_iload_n dX3_appendJoin_1 rfl ?_
  refine z_iconst 0 dX3_appendJoin_2 rfl ?_
  refine z_iconst 0 dX3_appendJoin_3 rfl ?_
  refine z_iconst 0 dX3_appendJoin_4 rfl ?_
  refine s_callV0 l_Query_28 (C_Query_leaf hT h0 hc) hT.1 dX3_appendJoin_5 rfl rfl (Nat.le_of_ble_eq_true rfl) ⟨⟨by decide, by decide⟩, by decide, by decide⟩ ?_
  refine z_return dX3_appendJoin_8 rfl ⟨Nat.le_refl _, Nat.le_refl _⟩ ?_
  exact ⟨rfl, rfl, rfl⟩
theorem C_Query_joinF {s : Int32} (hT : tQuery sh q) (h0 : zi S q 4 = nI 50) : zD G m_Query_appendJoin 2 sh [.ref q, .int s] S none S := by
  refine s_methD 0 ⟨p_Query, rfl, Nat.le_of_ble_eq_true rfl⟩ rfl (fun sz => ?_)
  refine z_aload_n dX3_appendJoin_0 rfl ?_
  refine z_iload_n dX3_appendJoin_1 rfl ?_
  refine z_iconst 0 dX3_appendJoin_2 rfl ?_
  refine z_iconst 0 dX3_appendJoin_3 rfl ?_
  refine z_iconst 0 dX3_appendJoin_4 rfl ?_
  refine s_callV0 l_Query_28 (C_Query_leafF hT h0) hT.1 dX3_appendJoin_5 rfl rfl (Nat.le_of_ble_eq_true rfl) ⟨⟨by decide, by decide⟩, by decide, by decide⟩ ?_
  refine z_return dX3_appendJoin_8 rfl ⟨Nat.le_refl _, Nat.le_refl _⟩ ?_
  exact ⟨rfl, rfl, rfl⟩
theorem C_Query_lastSort (hT : tQuery sh q) (h0 : zi S q 4 = nI (c + 1)) (hc : c < 50) : zD G m_Query_lastSort 1 sh [.ref q] S (some (.int (za S (q + 1) c))) S := by
  obtain ⟨t1, t2, t3, t4, t5⟩ := hT
  refine s_methD 0 ⟨p_Query, rfl, Nat.le_of_ble_eq_true rfl⟩ rfl (fun sz => ?_)
  refine z_aload_n dX3_lastSort_0 rfl ?_
  refine s_geti f_Query_24 dX3_lastSort_1 (by assumption) rfl ?_
  refine z_if_ne 11 dX3_lastSort_4 (by decide) (fun c4 => ?_) (fun c4 => ?_)
  · refine z_aload_n dX3_lastSort_11 rfl ?_
    refine s_getr f_Query_9 dX3_lastSort_12 (by assumption) rfl ?_
    refine z_aload_n dX3_lastSort_15 rfl ?_
    refine s_geti f_Query_24 dX3_lastSort_16 (by assumption) rfl ?_
    refine z_iconst 1 dX3_lastSort_19 rfl ?_
    refine z_isub dX3_lastSort_20 ?_
    rw [h0, nI_pred]
    refine s_bald dX3_lastSort_21 t2 (vp_in_nI hc (by decide)) ?_
    rw [nI_clamp (by omega)]
    refine z_ireturn dX3_lastSort_22 rfl rfl ⟨Nat.le_refl _, Nat.le_refl _⟩ ?_
    exact ⟨rfl, rfl, rfl⟩
  · rw [show zi S q 4 = nI (c + 1) from h0] at c4
    exact absurd c4 (nI_ne0 (by omega) (by omega))
def btw (x y z : Int32) : Bool := decide (x ≤ z ∧ z ≤ y)
theorem L_steps {F : zFin} {sz : Nat} {x y : Int32} (hT : tQuery sh q) (h0 : zi S q 4 = nI c) (hc : c ≤ 50) (kk : zW G m_Query_stepsBetween (zRm (1) 0 0) F 0 0 45 [some (.ref q), some (.int x), some (.int y), some (.int (nI (fb_ct (fun i => btw x y (za S (q + 1) i)) c))), some (.int (nI c))] [] (zhp sh S) sz) :
    ∀ d i, c - i = d → i ≤ c → zW G m_Query_stepsBetween (zRm (1) 0 0) F 0 0 5 [some (.ref q), some (.int x), some (.int y), some (.int (nI (fb_ct (fun i => btw x y (za S (q + 1) i)) i))), some (.int (nI i))] [] (zhp sh S) sz := by
  obtain ⟨t1, t2, t3, t4, t5⟩ := hT
  intro d
  induction d with
  | zero =>
    intro i h1 h2
    have hp : i = c := by omega
    subst hp
    refine z_iload dX3_stepsBetween_5 rfl ?_
    refine z_aload_n dX3_stepsBetween_7 rfl ?_
    refine s_geti f_Query_24 dX3_stepsBetween_8 (by assumption) rfl ?_
    refine z_icmp_ge 45 dX3_stepsBetween_11 (by decide) (fun c11 => ?_) (fun c11 => ?_)
    · exact kk
    · rw [show zi S q 4 = nI i from h0] at c11
      exact absurd (nI_le (Nat.le_refl _) (by omega)) c11
  | succ d ih =>
    intro i h1 h2
    refine z_iload dX3_stepsBetween_5 rfl ?_
    refine z_aload_n dX3_stepsBetween_7 rfl ?_
    refine s_geti f_Query_24 dX3_stepsBetween_8 (by assumption) rfl ?_
    refine z_icmp_ge 45 dX3_stepsBetween_11 (by decide) (fun c11 => ?_) (fun c11 => ?_)
    · rw [show zi S q 4 = nI c from h0] at c11
      exact absurd c11 (nI_ge (by omega) (by omega))
    · refine z_aload_n dX3_stepsBetween_14 rfl ?_
      refine s_getr f_Query_9 dX3_stepsBetween_15 (by assumption) rfl ?_
      refine z_iload dX3_stepsBetween_18 rfl ?_
      refine s_bald dX3_stepsBetween_20 t2 (vp_in_nI (by omega) (by decide)) ?_
      refine z_iload_n dX3_stepsBetween_21 rfl ?_
      refine z_icmp_lt 39 dX3_stepsBetween_22 (by decide) (fun c22 => ?_) (fun c22 => ?_)
      · rw [nI_clamp (by omega)] at c22
        have hb : btw x y (za S (q + 1) i) = false := decide_eq_false (fun q => Int32.not_lt.mpr q.1 c22)
        refine z_iinc (lv' := [_, _, _, _, _]) 1 dX3_stepsBetween_39 rfl (by decide) rfl rfl ?_
        refine z_goto 5 dX3_stepsBetween_42 (by decide) ?_
        simp only [nI_1]
        have ih2 := ih (i + 1) (by omega) (by omega)
        rw [fb_ct_succ, hb] at ih2
        exact ih2
      · refine z_aload_n dX3_stepsBetween_25 rfl ?_
        refine s_getr f_Query_9 dX3_stepsBetween_26 (by assumption) rfl ?_
        refine z_iload dX3_stepsBetween_29 rfl ?_
        refine s_bald dX3_stepsBetween_31 t2 (vp_in_nI (by omega) (by decide)) ?_
        refine z_iload_n dX3_stepsBetween_32 rfl ?_
        refine z_icmp_gt 39 dX3_stepsBetween_33 (by decide) (fun c33 => ?_) (fun c33 => ?_)
        · rw [nI_clamp (by omega)] at c33
          have hb : btw x y (za S (q + 1) i) = false := decide_eq_false (fun q => Int32.not_lt.mpr q.2 c33)
          refine z_iinc (lv' := [_, _, _, _, _]) 1 dX3_stepsBetween_39 rfl (by decide) rfl rfl ?_
          refine z_goto 5 dX3_stepsBetween_42 (by decide) ?_
          simp only [nI_1]
          have ih2 := ih (i + 1) (by omega) (by omega)
          rw [fb_ct_succ, hb] at ih2
          exact ih2
        · rw [nI_clamp (by omega)] at c33 c22
          have hb : btw x y (za S (q + 1) i) = true := decide_eq_true ⟨Int32.not_lt.mp c22, Int32.not_lt.mp c33⟩
          refine z_iinc (lv' := [_, _, _, _, _]) 1 dX3_stepsBetween_36 rfl (by decide) rfl rfl ?_
          refine z_iinc (lv' := [_, _, _, _, _]) 1 dX3_stepsBetween_39 rfl (by decide) rfl rfl ?_
          refine z_goto 5 dX3_stepsBetween_42 (by decide) ?_
          simp only [nI_1]
          have ih2 := ih (i + 1) (by omega) (by omega)
          rw [fb_ct_succ, hb] at ih2
          exact ih2
theorem C_Query_steps {x y : Int32} (hT : tQuery sh q) (h0 : zi S q 4 = nI c) (hc : c ≤ 50) : zD G m_Query_stepsBetween 1 sh [.ref q, .int x, .int y] S (some (.int (nI (fb_ct (fun i => btw x y (za S (q + 1) i)) c)))) S := by
  refine s_methD 2 ⟨p_Query, rfl, Nat.le_of_ble_eq_true rfl⟩ rfl (fun sz => ?_)
  refine z_iconst 0 dX3_stepsBetween_0 rfl ?_
  refine z_istore_n (lv' := [_, _, _, _, _]) dX3_stepsBetween_1 (by decide) rfl ?_
  refine z_iconst 0 dX3_stepsBetween_2 rfl ?_
  refine z_istore (lv' := [_, _, _, _, _]) dX3_stepsBetween_3 (by decide) rfl ?_
  refine L_steps hT h0 hc ?_ c 0 rfl (Nat.zero_le _)
  refine z_iload_n dX3_stepsBetween_45 rfl ?_
  refine z_ireturn dX3_stepsBetween_46 rfl rfl ⟨Nat.le_refl _, Nat.le_refl _⟩ ?_
  exact ⟨rfl, rfl, rfl⟩
end SMALL

