/-! ===== Bits ===== -/
/-- the longs of one cell have changed, and its bits are f now -/
def bqS (S : zSt) (a : Nat) (f : Nat → Bool) (S' : zSt) : Prop := S'.1 = S.1 ∧ (∀ b, b ≠ a → S'.2.1 b = S.2.1 b) ∧ S'.2.2.1 = S.2.2.1 ∧ S'.2.2.2 = S.2.2.2 ∧ ∀ i, i < 128 → bq S' a i = f i
theorem bq_two {S S' : zSt} {a : Nat} {f : Nat → Bool} {x y : Int64} (h : S' = zsl (zsl S a 0 x) a 1 y) (hx : ∀ i, i < 64 → zw x i = f i) (hy : ∀ i, i < 64 → zw y i = f (64 + i)) : bqS S a f S' := by
  subst h
  refine ⟨rfl, fun b hb => by show zup (zup S.2.1 a 0 x) a 1 y b = _; rw [zup_off hb, zup_off hb], rfl, rfl, fun i hi => ?_⟩
  unfold bq
  by_cases h : i < 64
  · rw [if_pos h]
    show zw (zup (zup S.2.1 a 0 x) a 1 y a 0) i = _
    rw [zup_ne (fun q => absurd q.2 (by decide)), zup_same, hx i h]
  · rw [if_neg h]
    show zw (zup (zup S.2.1 a 0 x) a 1 y a 1) (i - 64) = _
    rw [zup_same, hy _ (by omega), show 64 + (i - 64) = i by omega]
theorem bq_lo {S : zSt} {a i : Nat} (h : i < 64) : zw (S.2.1 a 0) i = bq S a i := by unfold bq; rw [if_pos h]
theorem bq_hi {S : zSt} {a i : Nat} (h : i < 64) : zw (S.2.1 a 1) i = bq S a (64 + i) := by
  unfold bq
  rw [if_neg (by omega), show 64 + i - 64 = i by omega]
theorem bq_skip {S : zSt} {a b : Nat} {x : Int64} : zl (zsl S a 0 x) b 1 = zl S b 1 := zup_ne (fun q => absurd q.2 (by decide))
/-- the first x ones -/
def fo (x : Int32) : Int64 := if 0 < x then (if x < 64 then (1 : Int64) <<< (x.toInt64 &&& 63) - 1 else -1) else 0
theorem fo_bit (x : Int32) {i : Nat} (hi : i < 64) : zw (fo x) i = decide ((i : Int) < x.toInt) := by
  unfold fo
  by_cases h0 : 0 < x
  · rw [if_pos h0]
    by_cases h1 : x < 64
    · rw [if_pos h1]
      have h2 : ¬ x < 0 := fun q => Int32.lt_irrefl (Int32.lt_trans h0 q)
      obtain ⟨j, hj, rfl⟩ := nI_of h2
      have h3 : j < 64 := (nI_ltI (b := 64) hj (by decide)).mp h1
      have : ∀ j, j < 64 → ∀ i, i < 64 → zw ((1 : Int64) <<< ((nI j).toInt64 &&& 63) - 1) i = decide (i < j) := by decide +kernel
      rw [this j h3 i hi, nI_toInt hj]
      simp
    · rw [if_neg h1, zw_m1 i hi]
      have e : (64 : Int32).toInt = 64 := by decide
      have h2 : ¬ x.toInt < 64 := fun q => h1 (Int32.lt_iff_toInt_lt.mpr (by rw [e]; exact q))
      symm
      exact decide_eq_true (by omega)
  · rw [if_neg h0, zw_0]
    have e : (0 : Int32).toInt = 0 := by decide
    have h2 : ¬ 0 < x.toInt := fun q => h0 (Int32.lt_iff_toInt_lt.mpr (by rw [e]; exact q))
    symm
    exact decide_eq_false (by omega)
theorem fo_lo {n i : Nat} (hn : n < 2 ^ 31) (hi : i < 64) : zw (fo (nI n)) i = decide (i < n) := by
  rw [fo_bit _ hi, nI_toInt hn]; simp
theorem nI_sub64 : ∀ n, n ≤ 128 → (nI n - 64).toInt = (n : Int) - 64 := by decide +kernel
theorem fo_hi {n i : Nat} (hn : n ≤ 128) (hi : i < 64) : zw (fo (nI n - 64)) i = decide (64 + i < n) := by
  rw [fo_bit _ hi, nI_sub64 n hn]
  by_cases h : 64 + i < n
  · simp [h]; omega
  · simp [h]; omega
section BITS
variable {G : zG} {sh : Nat → Option zSh} {S : zSt} {a b j n : Nat}
theorem C_Bits_has (ha : sh a = some kB) (hj : j < 128) : zD G m_Bits_has 1 sh [.ref a, .int (nI j)] S (some (.int (zo (bq S a j)))) S := by
  have key : ∀ x : Int64, zw x (j % 64) = bq S a j → (lg_cmp ((x.toUInt64 >>> (((nI j) &&& 63).toInt64.toUInt64 &&& Int64.toUInt64 63)).toInt64 &&& 1) 0 = 0 ↔ bq S a j = false) := fun x hx => by
    rw [lgc0, has_eq x hj, hx]
  have k1 : ¬ (64 : Int32) ≤ nI j → zw (zl S a 0) (j % 64) = bq S a j := fun h => by
    rw [nI_lt64 (by omega)] at h
    unfold bq
    rw [if_pos (by omega), Nat.mod_eq_of_lt (by omega)]
  have k2 : (64 : Int32) ≤ nI j → zw (zl S a 1) (j % 64) = bq S a j := fun h => by
    rw [nI_lt64 (by omega)] at h
    unfold bq
    rw [if_neg (by omega), show j % 64 = j - 64 by omega]
  refine s_methD 2 ⟨p_Bits, rfl, Nat.le_of_ble_eq_true rfl⟩ rfl (fun sz => ?_)
  refine z_iload_n dX0_has_0 rfl ?_
  refine z_bipush 64 dX0_has_1 (by decide) ?_
  refine z_icmp_ge 13 dX0_has_3 (by decide) (fun c3 => ?_) (fun c3 => ?_)
  · have hk := key _ (k2 c3)
    refine z_aload_n dX0_has_13 rfl ?_
    refine s_getl f_Bits_15 dX0_has_14 (by assumption) rfl ?_
    refine z_lstore_n (lv' := [_, _, _, _]) dX0_has_17 (by decide) rfl ?_
    refine z_lload_n dX0_has_18 rfl ?_
    refine z_iload_n dX0_has_19 rfl ?_
    refine z_bipush 63 dX0_has_20 (by decide) ?_
    refine z_iand dX0_has_22 ?_
    refine z_lushr dX0_has_23 ?_
    refine z_lconst 1 dX0_has_24 (by decide) ?_
    refine z_land dX0_has_25 ?_
    refine z_lconst 0 dX0_has_26 (by decide) ?_
    refine z_lcmp dX0_has_27 ?_
    refine z_if_eq 35 dX0_has_28 (by decide) (fun c28 => ?_) (fun c28 => ?_)
    · rw [hk.mp c28]
      refine z_iconst 0 dX0_has_35 rfl ?_
      refine z_ireturn dX0_has_36 rfl rfl ⟨Nat.le_refl _, Nat.le_refl _⟩ ?_
      exact ⟨rfl, rfl, rfl⟩
    · rw [ts_nf (fun q => c28 (hk.mpr q))]
      refine z_iconst 1 dX0_has_31 rfl ?_
      refine z_goto 36 dX0_has_32 (by decide) ?_
      refine z_ireturn dX0_has_36 rfl rfl ⟨Nat.le_refl _, Nat.le_refl _⟩ ?_
      exact ⟨rfl, rfl, rfl⟩
  · have hk := key _ (k1 c3)
    refine z_aload_n dX0_has_6 rfl ?_
    refine s_getl f_Bits_9 dX0_has_7 (by assumption) rfl ?_
    refine z_goto 17 dX0_has_10 (by decide) ?_
    refine z_lstore_n (lv' := [_, _, _, _]) dX0_has_17 (by decide) rfl ?_
    refine z_lload_n dX0_has_18 rfl ?_
    refine z_iload_n dX0_has_19 rfl ?_
    refine z_bipush 63 dX0_has_20 (by decide) ?_
    refine z_iand dX0_has_22 ?_
    refine z_lushr dX0_has_23 ?_
    refine z_lconst 1 dX0_has_24 (by decide) ?_
    refine z_land dX0_has_25 ?_
    refine z_lconst 0 dX0_has_26 (by decide) ?_
    refine z_lcmp dX0_has_27 ?_
    refine z_if_eq 35 dX0_has_28 (by decide) (fun c28 => ?_) (fun c28 => ?_)
    · rw [hk.mp c28]
      refine z_iconst 0 dX0_has_35 rfl ?_
      refine z_ireturn dX0_has_36 rfl rfl ⟨Nat.le_refl _, Nat.le_refl _⟩ ?_
      exact ⟨rfl, rfl, rfl⟩
    · rw [ts_nf (fun q => c28 (hk.mpr q))]
      refine z_iconst 1 dX0_has_31 rfl ?_
      refine z_goto 36 dX0_has_32 (by decide) ?_
      refine z_ireturn dX0_has_36 rfl rfl ⟨Nat.le_refl _, Nat.le_refl _⟩ ?_
      exact ⟨rfl, rfl, rfl⟩
theorem C_Bits_firstOnes {x : Int32} : zD G m_Bits_firstOnes 1 sh [.int x] S (some (.long (fo x))) S := by
  refine s_methD 0 ⟨p_Bits, rfl, Nat.le_of_ble_eq_true rfl⟩ rfl (fun sz => ?_)
  refine z_iload_n dX0_firstOnes_0 rfl ?_
  refine z_if_gt 6 dX0_firstOnes_1 (by decide) (fun c1 => ?_) (fun c1 => ?_)
  · unfold fo
    rw [if_pos c1]
    refine z_iload_n dX0_firstOnes_6 rfl ?_
    refine z_bipush 64 dX0_firstOnes_7 (by decide) ?_
    refine z_icmp_lt 18 dX0_firstOnes_9 (by decide) (fun c9 => ?_) (fun c9 => ?_)
    · rw [if_pos c9]
      refine z_lconst 1 dX0_firstOnes_18 (by decide) ?_
      refine z_iload_n dX0_firstOnes_19 rfl ?_
      refine z_lshl dX0_firstOnes_20 ?_
      refine z_lconst 1 dX0_firstOnes_21 (by decide) ?_
      refine z_lsub dX0_firstOnes_22 ?_
      refine z_lreturn dX0_firstOnes_23 rfl ⟨Nat.le_refl _, Nat.le_refl _⟩ ?_
      exact ⟨rfl, rfl, rfl⟩
    · rw [if_neg c9]
      refine z_ldc2 (-1) v_Bits_18 dX0_firstOnes_12 ?_
      refine z_goto 23 dX0_firstOnes_15 (by decide) ?_
      refine z_lreturn dX0_firstOnes_23 rfl ⟨Nat.le_refl _, Nat.le_refl _⟩ ?_
      exact ⟨rfl, rfl, rfl⟩
  · unfold fo
    rw [if_neg c1]
    refine z_lconst 0 dX0_firstOnes_4 (by decide) ?_
    refine z_lreturn dX0_firstOnes_5 rfl ⟨Nat.le_refl _, Nat.le_refl _⟩ ?_
    exact ⟨rfl, rfl, rfl⟩
theorem bq_one0 {S : zSt} {a : Nat} {f : Nat → Bool} {x : Int64} (hx : ∀ i, i < 64 → zw x i = f i) (hy : ∀ i, i < 64 → bq S a (64 + i) = f (64 + i)) : bqS S a f (zsl S a 0 x) := by
  refine ⟨rfl, fun b hb => zup_off hb, rfl, rfl, fun i hi => ?_⟩
  unfold bq
  by_cases h : i < 64
  · rw [if_pos h]
    show zw (zup S.2.1 a 0 x a 0) i = _
    rw [zup_same, hx i h]
  · rw [if_neg h]
    show zw (zup S.2.1 a 0 x a 1) (i - 64) = _
    rw [zup_ne (fun q => absurd q.2 (by decide)), bq_hi (by omega), hy _ (by omega), show 64 + (i - 64) = i by omega]
theorem bq_one1 {S : zSt} {a : Nat} {f : Nat → Bool} {x : Int64} (hx : ∀ i, i < 64 → bq S a i = f i) (hy : ∀ i, i < 64 → zw x i = f (64 + i)) : bqS S a f (zsl S a 1 x) := by
  refine ⟨rfl, fun b hb => zup_off hb, rfl, rfl, fun i hi => ?_⟩
  unfold bq
  by_cases h : i < 64
  · rw [if_pos h]
    show zw (zup S.2.1 a 1 x a 0) i = _
    rw [zup_ne (fun q => absurd q.2 (by decide)), bq_lo h, hx i h]
  · rw [if_neg h]
    show zw (zup S.2.1 a 1 x a 1) (i - 64) = _
    rw [zup_same, hy _ (by omega), show 64 + (i - 64) = i by omega]
theorem C_Bits_put (ha : sh a = some kB) (hj : j < 128) : zN G m_Bits_put 1 sh [.ref a, .int (nI j)] S none (bqS S a (fun i => bq S a i || decide (i = j))) := by
  have hm : ∀ i, i < 64 → zw ((1 : Int64) <<< (((nI j) &&& 63).toInt64 &&& 63)) i = decide (i = j % 64) := fun i hi => by
    rw [sh_amtl j hj, zw_shl 1 (Nat.mod_lt _ (by decide)) hi]
    by_cases h : j % 64 ≤ i
    · rw [zw_1 _ (by omega)]
      by_cases h2 : i = j % 64
      · simp [h2]
      · simp [h, h2]; omega
    · simp [h]; omega
  refine s_meth 2 ⟨p_Bits, rfl, Nat.le_of_ble_eq_true rfl⟩ rfl (fun sz => ?_)
  refine z_lconst 1 dX0_put_0 (by decide) ?_
  refine z_iload_n dX0_put_1 rfl ?_
  refine z_bipush 63 dX0_put_2 (by decide) ?_
  refine z_iand dX0_put_4 ?_
  refine z_lshl dX0_put_5 ?_
  refine z_lstore_n (lv' := [_, _, _, _]) dX0_put_6 (by decide) rfl ?_
  refine z_iload_n dX0_put_7 rfl ?_
  refine z_bipush 64 dX0_put_8 (by decide) ?_
  refine z_icmp_ge 26 dX0_put_10 (by decide) (fun c10 => ?_) (fun c10 => ?_)
  · have c := (nI_lt64 (by omega)).mp c10
    refine z_aload_n dX0_put_26 rfl ?_
    refine z_dup dX0_put_27 rfl ?_
    refine s_getl f_Bits_15 dX0_put_28 (by assumption) rfl ?_
    refine z_lload_n dX0_put_31 rfl ?_
    refine z_lor dX0_put_32 ?_
    refine s_putl f_Bits_15 dX0_put_33 (by assumption) rfl ⟨rfl, rfl⟩ ?_
    refine z_return dX0_put_36 rfl ⟨Nat.le_refl _, Nat.le_refl _⟩ ⟨rfl, _, rfl, rfl, ?_⟩
    first
      | exact bq_one0 (fun i hi => by rw [zw_or, hm i hi, bq_lo hi, show j % 64 = j by omega]) (fun i hi => by simp; omega)
      | exact bq_one1 (fun i hi => by simp; omega) (fun i hi => by rw [zw_or, hm i hi, bq_hi hi]; congr 1; simp; omega)
  · have c : ¬ 64 ≤ j := fun q => c10 ((nI_lt64 (by omega)).mpr q)
    refine z_aload_n dX0_put_13 rfl ?_
    refine z_dup dX0_put_14 rfl ?_
    refine s_getl f_Bits_9 dX0_put_15 (by assumption) rfl ?_
    refine z_lload_n dX0_put_18 rfl ?_
    refine z_lor dX0_put_19 ?_
    refine s_putl f_Bits_9 dX0_put_20 (by assumption) rfl ⟨rfl, rfl⟩ ?_
    refine z_goto 36 dX0_put_23 (by decide) ?_
    refine z_return dX0_put_36 rfl ⟨Nat.le_refl _, Nat.le_refl _⟩ ⟨rfl, _, rfl, rfl, ?_⟩
    first
      | exact bq_one0 (fun i hi => by rw [zw_or, hm i hi, bq_lo hi, show j % 64 = j by omega]) (fun i hi => by simp; omega)
      | exact bq_one1 (fun i hi => by simp; omega) (fun i hi => by rw [zw_or, hm i hi, bq_hi hi]; congr 1; simp; omega)
theorem C_Bits_become (ha : sh a = some kB) (hb : sh b = some kB) : zN G m_Bits_become 1 sh [.ref a, .ref b] S none (bqS S a (fun i => bq S b i)) := by
  refine s_meth 0 ⟨p_Bits, rfl, Nat.le_of_ble_eq_true rfl⟩ rfl (fun sz => ?_)
  refine z_aload_n dX0_become_0 rfl ?_
  refine z_aload_n dX0_become_1 rfl ?_
  refine s_getl f_Bits_9 dX0_become_2 (by assumption) rfl ?_
  refine s_putl f_Bits_9 dX0_become_5 (by assumption) rfl ⟨rfl, rfl⟩ ?_
  refine z_aload_n dX0_become_8 rfl ?_
  refine z_aload_n dX0_become_9 rfl ?_
  refine s_getl f_Bits_15 dX0_become_10 (by assumption) rfl ?_
  refine s_putl f_Bits_15 dX0_become_13 (by assumption) rfl ⟨rfl, rfl⟩ ?_
  refine z_return dX0_become_16 rfl ⟨Nat.le_refl _, Nat.le_refl _⟩ ?_
  exact ⟨rfl, _, rfl, rfl, bq_two rfl (fun i hi => bq_lo hi) (fun i hi => by rw [bq_skip]; exact bq_hi hi)⟩
theorem C_Bits_keep (ha : sh a = some kB) (hb : sh b = some kB) : zN G m_Bits_keepThoseOf 1 sh [.ref a, .ref b] S none (bqS S a (fun i => bq S a i && bq S b i)) := by
  refine s_meth 0 ⟨p_Bits, rfl, Nat.le_of_ble_eq_true rfl⟩ rfl (fun sz => ?_)
  refine z_aload_n dX0_keepThoseOf_0 rfl ?_
  refine z_dup dX0_keepThoseOf_1 rfl ?_
  refine s_getl f_Bits_9 dX0_keepThoseOf_2 (by assumption) rfl ?_
  refine z_aload_n dX0_keepThoseOf_5 rfl ?_
  refine s_getl f_Bits_9 dX0_keepThoseOf_6 (by assumption) rfl ?_
  refine z_land dX0_keepThoseOf_9 ?_
  refine s_putl f_Bits_9 dX0_keepThoseOf_10 (by assumption) rfl ⟨rfl, rfl⟩ ?_
  refine z_aload_n dX0_keepThoseOf_13 rfl ?_
  refine z_dup dX0_keepThoseOf_14 rfl ?_
  refine s_getl f_Bits_15 dX0_keepThoseOf_15 (by assumption) rfl ?_
  refine z_aload_n dX0_keepThoseOf_18 rfl ?_
  refine s_getl f_Bits_15 dX0_keepThoseOf_19 (by assumption) rfl ?_
  refine z_land dX0_keepThoseOf_22 ?_
  refine s_putl f_Bits_15 dX0_keepThoseOf_23 (by assumption) rfl ⟨rfl, rfl⟩ ?_
  refine z_return dX0_keepThoseOf_26 rfl ⟨Nat.le_refl _, Nat.le_refl _⟩ ?_
  exact ⟨rfl, _, rfl, rfl, bq_two rfl (fun i hi => by rw [zw_and, bq_lo hi, bq_lo hi]) (fun i hi => by rw [zw_and, bq_skip, bq_skip, bq_hi hi, bq_hi hi])⟩
theorem C_Bits_take (ha : sh a = some kB) (hb : sh b = some kB) : zN G m_Bits_takeThoseOf 1 sh [.ref a, .ref b] S none (bqS S a (fun i => bq S a i || bq S b i)) := by
  refine s_meth 0 ⟨p_Bits, rfl, Nat.le_of_ble_eq_true rfl⟩ rfl (fun sz => ?_)
  refine z_aload_n dX0_takeThoseOf_0 rfl ?_
  refine z_dup dX0_takeThoseOf_1 rfl ?_
  refine s_getl f_Bits_9 dX0_takeThoseOf_2 (by assumption) rfl ?_
  refine z_aload_n dX0_takeThoseOf_5 rfl ?_
  refine s_getl f_Bits_9 dX0_takeThoseOf_6 (by assumption) rfl ?_
  refine z_lor dX0_takeThoseOf_9 ?_
  refine s_putl f_Bits_9 dX0_takeThoseOf_10 (by assumption) rfl ⟨rfl, rfl⟩ ?_
  refine z_aload_n dX0_takeThoseOf_13 rfl ?_
  refine z_dup dX0_takeThoseOf_14 rfl ?_
  refine s_getl f_Bits_15 dX0_takeThoseOf_15 (by assumption) rfl ?_
  refine z_aload_n dX0_takeThoseOf_18 rfl ?_
  refine s_getl f_Bits_15 dX0_takeThoseOf_19 (by assumption) rfl ?_
  refine z_lor dX0_takeThoseOf_22 ?_
  refine s_putl f_Bits_15 dX0_takeThoseOf_23 (by assumption) rfl ⟨rfl, rfl⟩ ?_
  refine z_return dX0_takeThoseOf_26 rfl ⟨Nat.le_refl _, Nat.le_refl _⟩ ?_
  exact ⟨rfl, _, rfl, rfl, bq_two rfl (fun i hi => by rw [zw_or, bq_lo hi, bq_lo hi]) (fun i hi => by rw [zw_or, bq_skip, bq_skip, bq_hi hi, bq_hi hi])⟩
theorem C_Bits_becomeOnes (ha : sh a = some kB) (hn : n ≤ 128) : zN G m_Bits_becomeOnes 2 sh [.ref a, .int (nI n)] S none (bqS S a (fun i => decide (i < n))) := by
  refine s_meth 0 ⟨p_Bits, rfl, Nat.le_of_ble_eq_true rfl⟩ rfl (fun sz => ?_)
  refine z_aload_n dX0_becomeOnes_0 rfl ?_
  refine z_iload_n dX0_becomeOnes_1 rfl ?_
  refine s_callS1 l_Bits_20 (C_Bits_firstOnes) dX0_becomeOnes_2 rfl rfl (Nat.le_of_ble_eq_true rfl) ⟨⟨by decide, by decide⟩, by decide, by decide⟩ ?_
  refine s_putl f_Bits_9 dX0_becomeOnes_5 (by assumption) rfl ⟨rfl, rfl⟩ ?_
  refine z_aload_n dX0_becomeOnes_8 rfl ?_
  refine z_iload_n dX0_becomeOnes_9 rfl ?_
  refine z_bipush 64 dX0_becomeOnes_10 (by decide) ?_
  refine z_isub dX0_becomeOnes_12 ?_
  refine s_callS1 l_Bits_20 (C_Bits_firstOnes) dX0_becomeOnes_13 rfl rfl (Nat.le_of_ble_eq_true rfl) ⟨⟨by decide, by decide⟩, by decide, by decide⟩ ?_
  refine s_putl f_Bits_15 dX0_becomeOnes_16 (by assumption) rfl ⟨rfl, rfl⟩ ?_
  refine z_return dX0_becomeOnes_19 rfl ⟨Nat.le_refl _, Nat.le_refl _⟩ ?_
  exact ⟨rfl, _, rfl, rfl, bq_two rfl (fun i hi => fo_lo (by omega) hi) (fun i hi => fo_hi hn hi)⟩
theorem C_Bits_becomeZeros (ha : sh a = some kB) : zN G m_Bits_becomeZeros 3 sh [.ref a] S none (bqS S a (fun _ => false)) := by
  refine s_meth 0 ⟨p_Bits, rfl, Nat.le_of_ble_eq_true rfl⟩ rfl (fun sz => ?_)
  refine z_aload_n dX0_becomeZeros_0 rfl ?_
  refine z_iconst 0 dX0_becomeZeros_1 rfl ?_
  refine n_callV0 l_Bits_24 (C_Bits_becomeOnes (n := 0) ha (by decide)) (by assumption) dX0_becomeZeros_2 rfl rfl (Nat.le_of_ble_eq_true rfl) ⟨⟨by decide, by decide⟩, by decide, by decide⟩ (fun S2 q2 => ?_)
  refine z_return dX0_becomeZeros_5 rfl ⟨Nat.le_refl _, Nat.le_refl _⟩ ?_
  exact ⟨rfl, _, rfl, rfl, q2.1, q2.2.1, q2.2.2.1, q2.2.2.2.1, fun i hi => by rw [q2.2.2.2.2 i hi]; simp⟩
theorem C_Bits_cutTo (ha : sh a = some kB) (hn : n ≤ 128) : zN G m_Bits_cutTo 2 sh [.ref a, .int (nI n)] S none (bqS S a (fun i => bq S a i && decide (i < n))) := by
  refine s_meth 0 ⟨p_Bits, rfl, Nat.le_of_ble_eq_true rfl⟩ rfl (fun sz => ?_)
  refine z_aload_n dX0_cutTo_0 rfl ?_
  refine z_dup dX0_cutTo_1 rfl ?_
  refine s_getl f_Bits_9 dX0_cutTo_2 (by assumption) rfl ?_
  refine z_iload_n dX0_cutTo_5 rfl ?_
  refine s_callS1 l_Bits_20 (C_Bits_firstOnes) dX0_cutTo_6 rfl rfl (Nat.le_of_ble_eq_true rfl) ⟨⟨by decide, by decide⟩, by decide, by decide⟩ ?_
  refine z_land dX0_cutTo_9 ?_
  refine s_putl f_Bits_9 dX0_cutTo_10 (by assumption) rfl ⟨rfl, rfl⟩ ?_
  refine z_aload_n dX0_cutTo_13 rfl ?_
  refine z_dup dX0_cutTo_14 rfl ?_
  refine s_getl f_Bits_15 dX0_cutTo_15 (by assumption) rfl ?_
  refine z_iload_n dX0_cutTo_18 rfl ?_
  refine z_bipush 64 dX0_cutTo_19 (by decide) ?_
  refine z_isub dX0_cutTo_21 ?_
  refine s_callS1 l_Bits_20 (C_Bits_firstOnes) dX0_cutTo_22 rfl rfl (Nat.le_of_ble_eq_true rfl) ⟨⟨by decide, by decide⟩, by decide, by decide⟩ ?_
  refine z_land dX0_cutTo_25 ?_
  refine s_putl f_Bits_15 dX0_cutTo_26 (by assumption) rfl ⟨rfl, rfl⟩ ?_
  refine z_return dX0_cutTo_29 rfl ⟨Nat.le_refl _, Nat.le_refl _⟩ ?_
  exact ⟨rfl, _, rfl, rfl, bq_two rfl (fun i hi => by rw [zw_and, bq_lo hi, fo_lo (by omega) hi]) (fun i hi => by rw [zw_and, bq_skip, bq_hi hi, fo_hi hn hi])⟩
theorem bqS_trans {S S1 S2 : zSt} {a : Nat} {f g : Nat → Bool} (h1 : bqS S a f S1) (h2 : bqS S1 a g S2) : bqS S a g S2 :=
  ⟨h2.1.trans h1.1, fun b hb => (h2.2.1 b hb).trans (h1.2.1 b hb), h2.2.2.1.trans h1.2.2.1, h2.2.2.2.1.trans h1.2.2.2.1, h2.2.2.2.2⟩
theorem bqS_fun {S S1 : zSt} {a : Nat} {f g : Nat → Bool} (h1 : bqS S a f S1) (h : ∀ i, i < 128 → f i = g i) : bqS S a g S1 :=
  ⟨h1.1, h1.2.1, h1.2.2.1, h1.2.2.2.1, fun i hi => by rw [h1.2.2.2.2 i hi, h i hi]⟩
theorem C_Bits_turn (ha : sh a = some kB) (hn : n ≤ 128) : zN G m_Bits_turn 3 sh [.ref a, .int (nI n)] S none (bqS S a (fun i => !bq S a i && decide (i < n))) := by
  refine s_meth 0 ⟨p_Bits, rfl, Nat.le_of_ble_eq_true rfl⟩ rfl (fun sz => ?_)
  refine z_aload_n dX0_turn_0 rfl ?_
  refine z_aload_n dX0_turn_1 rfl ?_
  refine s_getl f_Bits_9 dX0_turn_2 (by assumption) rfl ?_
  refine z_ldc2 (-1) v_Bits_18 dX0_turn_5 ?_
  refine z_lxor dX0_turn_8 ?_
  refine s_putl f_Bits_9 dX0_turn_9 (by assumption) rfl ⟨rfl, rfl⟩ ?_
  refine z_aload_n dX0_turn_12 rfl ?_
  refine z_aload_n dX0_turn_13 rfl ?_
  refine s_getl f_Bits_15 dX0_turn_14 (by assumption) rfl ?_
  refine z_ldc2 (-1) v_Bits_18 dX0_turn_17 ?_
  refine z_lxor dX0_turn_20 ?_
  refine s_putl f_Bits_15 dX0_turn_21 (by assumption) rfl ⟨rfl, rfl⟩ ?_
  refine z_aload_n dX0_turn_24 rfl ?_
  refine z_iload_n dX0_turn_25 rfl ?_
  refine n_callV0 l_Bits_28 (C_Bits_cutTo ha hn) ha dX0_turn_26 rfl rfl (Nat.le_of_ble_eq_true rfl) ⟨⟨by decide, by decide⟩, by decide, by decide⟩ (fun S26 q26 => ?_)
  refine z_return dX0_turn_29 rfl ⟨Nat.le_refl _, Nat.le_refl _⟩ ?_
  refine ⟨rfl, _, rfl, rfl, bqS_fun (bqS_trans (bq_two (f := fun i => !bq S a i) rfl (fun i hi => by rw [zw_xor, zw_m1 i hi, bq_lo hi]; simp) (fun i hi => by rw [zw_xor, zw_m1 i hi, bq_skip, bq_hi hi]; simp)) q26) (fun i hi => ?_)⟩
  rw [(bq_two (S := S) (a := a) (f := fun i => !bq S a i) rfl (fun i hi => by rw [zw_xor, zw_m1 i hi, bq_lo hi]; simp) (fun i hi => by rw [zw_xor, zw_m1 i hi, bq_skip, bq_hi hi]; simp)).2.2.2.2 i hi]
theorem bq_count {S : zSt} {a : Nat} : fb_ct (zw (zl S a 0)) 64 + fb_ct (zw (zl S a 1)) 64 = fb_ct (bq S a) 128 := by
  rw [show (128 : Nat) = 64 + 64 from rfl, fb_ct_split, fb_ct_cong (p := zw (zl S a 0)) (q := bq S a) (fun i hi => bq_lo hi), fb_ct_cong (p := zw (zl S a 1)) (q := fun k => bq S a (64 + k)) (fun i hi => bq_hi hi)]
theorem C_Bits_ones (ha : sh a = some kB) : zD G m_Bits_ones 2 sh [.ref a] S (some (.int (nI (fb_ct (bq S a) 128)))) S := by
  refine s_methD 0 ⟨p_Bits, rfl, Nat.le_of_ble_eq_true rfl⟩ rfl (fun sz => ?_)
  refine z_aload_n dX0_ones_0 rfl ?_
  refine s_getl f_Bits_9 dX0_ones_1 (by assumption) rfl ?_
  refine s_callS1 l_Bits_31 (C_bitCount) dX0_ones_4 rfl rfl (Nat.le_of_ble_eq_true rfl) ⟨⟨by decide, by decide⟩, by decide, by decide⟩ ?_
  refine z_aload_n dX0_ones_7 rfl ?_
  refine s_getl f_Bits_15 dX0_ones_8 (by assumption) rfl ?_
  refine s_callS1 l_Bits_31 (C_bitCount) dX0_ones_11 rfl rfl (Nat.le_of_ble_eq_true rfl) ⟨⟨by decide, by decide⟩, by decide, by decide⟩ ?_
  refine z_iadd dX0_ones_14 ?_
  refine z_ireturn dX0_ones_15 rfl rfl ⟨Nat.le_refl _, Nat.le_refl _⟩ ?_
  exact ⟨by rw [nI_add, bq_count], rfl, rfl⟩
theorem sh1 : ((1 : Int32).toInt64.toUInt64 &&& Int64.toUInt64 63) = UInt64.ofNat 1 := by decide +kernel
theorem sh63 : ((63 : Int32).toInt64 &&& 63) = Int64.ofNat 63 := by decide +kernel
theorem rw_lo {S : zSt} {a i : Nat} (hi : i < 64) : zw (zl S a 0 ^^^ (((zl S a 0).toUInt64 >>> ((1 : Int32).toInt64.toUInt64 &&& Int64.toUInt64 63)).toInt64 ||| zl S a 1 <<< ((63 : Int32).toInt64 &&& 63))) i = (bq S a i ^^ bq S a (i + 1)) := by
  rw [zw_xor, zw_or, sh1, sh63, zw_shr _ (by decide), zw_shl _ (by decide) hi, bq_lo hi]
  by_cases h : i = 63
  · subst h
    rw [zw_ge _ (by decide)]
    have := bq_hi (S := S) (a := a) (i := 0) (by decide)
    rw [show 63 - 63 = 0 from rfl, this]
    simp
  · rw [Nat.add_comm 1 i, bq_lo (by omega)]
    simp [show ¬ 63 ≤ i by omega]
theorem rw_hi {S : zSt} {a i : Nat} (hi : i < 64) (h : i < 63) : zw (zl S a 1 ^^^ ((zl S a 1).toUInt64 >>> ((1 : Int32).toInt64.toUInt64 &&& Int64.toUInt64 63)).toInt64) i = (bq S a (64 + i) ^^ bq S a (64 + i + 1)) := by
  rw [zw_xor, sh1, zw_shr _ (by decide), bq_hi hi, Nat.add_comm 1 i, bq_hi (by omega), Nat.add_assoc]
theorem C_Bits_runsWithin (ha : sh a = some kB) (hn : n ≤ 128) : zD G m_Bits_runsWithin 2 sh [.ref a, .int (nI n)] S (some (.int (nI (runsN (bq S a) n)))) S := by
  refine s_methD 5 ⟨p_Bits, rfl, Nat.le_of_ble_eq_true rfl⟩ rfl (fun sz => ?_)
  refine z_iload_n dX0_runsWithin_0 rfl ?_
  refine z_if_gt 6 dX0_runsWithin_1 (by decide) (fun c1 => ?_) (fun c1 => ?_)
  · have h0 : 0 < n := (nI_ltI (a := 0) (by decide) (by omega)).mp c1
    obtain ⟨m, rfl⟩ : ∃ m, n = m + 1 := ⟨n - 1, by omega⟩
    refine z_aload_n dX0_runsWithin_6 rfl ?_
    refine s_getl f_Bits_9 dX0_runsWithin_7 (by assumption) rfl ?_
    refine z_aload_n dX0_runsWithin_10 rfl ?_
    refine s_getl f_Bits_9 dX0_runsWithin_11 (by assumption) rfl ?_
    refine z_iconst 1 dX0_runsWithin_14 rfl ?_
    refine z_lushr dX0_runsWithin_15 ?_
    refine z_aload_n dX0_runsWithin_16 rfl ?_
    refine s_getl f_Bits_15 dX0_runsWithin_17 (by assumption) rfl ?_
    refine z_bipush 63 dX0_runsWithin_20 (by decide) ?_
    refine z_lshl dX0_runsWithin_22 ?_
    refine z_lor dX0_runsWithin_23 ?_
    refine z_lxor dX0_runsWithin_24 ?_
    refine z_lstore_n (lv' := [_, _, _, _, _, _, _]) dX0_runsWithin_25 (by decide) rfl ?_
    refine z_aload_n dX0_runsWithin_26 rfl ?_
    refine s_getl f_Bits_15 dX0_runsWithin_27 (by assumption) rfl ?_
    refine z_aload_n dX0_runsWithin_30 rfl ?_
    refine s_getl f_Bits_15 dX0_runsWithin_31 (by assumption) rfl ?_
    refine z_iconst 1 dX0_runsWithin_34 rfl ?_
    refine z_lushr dX0_runsWithin_35 ?_
    refine z_lxor dX0_runsWithin_36 ?_
    refine z_lstore (lv' := [_, _, _, _, _, _, _]) dX0_runsWithin_37 (by decide) rfl ?_
    refine z_lload_n dX0_runsWithin_39 rfl ?_
    refine z_iload_n dX0_runsWithin_40 rfl ?_
    refine z_iconst 1 dX0_runsWithin_41 rfl ?_
    refine z_isub dX0_runsWithin_42 ?_
    refine s_callS1 l_Bits_20 (C_Bits_firstOnes) dX0_runsWithin_43 rfl rfl (Nat.le_of_ble_eq_true rfl) ⟨⟨by decide, by decide⟩, by decide, by decide⟩ ?_
    refine z_land dX0_runsWithin_46 ?_
    refine s_callS1 l_Bits_31 (C_bitCount) dX0_runsWithin_47 rfl rfl (Nat.le_of_ble_eq_true rfl) ⟨⟨by decide, by decide⟩, by decide, by decide⟩ ?_
    refine z_lload dX0_runsWithin_50 rfl ?_
    refine z_iload_n dX0_runsWithin_52 rfl ?_
    refine z_iconst 1 dX0_runsWithin_53 rfl ?_
    refine z_isub dX0_runsWithin_54 ?_
    refine z_bipush 64 dX0_runsWithin_55 (by decide) ?_
    refine z_isub dX0_runsWithin_57 ?_
    refine s_callS1 l_Bits_20 (C_Bits_firstOnes) dX0_runsWithin_58 rfl rfl (Nat.le_of_ble_eq_true rfl) ⟨⟨by decide, by decide⟩, by decide, by decide⟩ ?_
    refine z_land dX0_runsWithin_61 ?_
    refine s_callS1 l_Bits_31 (C_bitCount) dX0_runsWithin_62 rfl rfl (Nat.le_of_ble_eq_true rfl) ⟨⟨by decide, by decide⟩, by decide, by decide⟩ ?_
    refine z_iadd dX0_runsWithin_65 ?_
    refine z_istore (lv' := [_, _, _, _, _, _, _]) dX0_runsWithin_66 (by decide) rfl ?_
    refine z_iload dX0_runsWithin_68 rfl ?_
    refine z_iconst 1 dX0_runsWithin_70 rfl ?_
    refine z_iadd dX0_runsWithin_71 ?_
    refine z_ireturn dX0_runsWithin_72 rfl rfl ⟨Nat.le_refl _, Nat.le_refl _⟩ ?_
    refine ⟨?_, rfl, rfl⟩
    rw [nI_pred, nI_add, nI_1, runsN_diff _ (by omega), show m + 1 - 1 = m from rfl]
    congr 4
    rw [← ct_cut _ (show m ≤ 128 by omega), show (128 : Nat) = 64 + 64 from rfl, fb_ct_split]
    congr 1
    · exact fb_ct_cong (fun i hi => by rw [zw_and, rw_lo hi, fo_lo (by omega) hi])
    · refine fb_ct_cong (fun i hi => ?_)
      rw [zw_and, fo_hi (by omega) hi]
      by_cases h : i < 63
      · rw [rw_hi hi h]
      · rw [show decide (64 + i < m) = false by simp; omega, Bool.and_false, Bool.and_false]
  · have h0 : n = 0 := by
      rcases Nat.eq_zero_or_pos n with q | q
      · exact q
      · exact absurd (nI_lt (a := 0) q (by omega)) c1
    subst h0
    refine z_iconst 0 dX0_runsWithin_4 rfl ?_
    refine z_ireturn dX0_runsWithin_5 rfl rfl ⟨Nat.le_refl _, Nat.le_refl _⟩ ?_
    exact ⟨rfl, rfl, rfl⟩
theorem L_endOfRun {F : zFin} {sz s n : Nat} (ha : sh a = some kB) (hs : s < n) (hn : n ≤ 128) (kk : zW G m_Bits_endOfRun (zRm (2) 0 0) F 0 0 28 [some (.ref a), some (.int (nI s)), some (.int (nI n)), some (.int (nI (rEnd (bq S a) s n)))] [] (zhp sh S) sz) :
    ∀ k p, n - p = k → p ≤ n → rE (bq S a) s n k p = rEnd (bq S a) s n → zW G m_Bits_endOfRun (zRm (2) 0 0) F 0 0 4 [some (.ref a), some (.int (nI s)), some (.int (nI n)), some (.int (nI p))] [] (zhp sh S) sz := by
  intro k
  induction k with
  | zero =>
    intro p h1 h2 h3
    have hp : p = n := by omega
    subst hp
    refine z_iload_n dX0_endOfRun_4 rfl ?_
    refine z_iload_n dX0_endOfRun_5 rfl ?_
    refine z_icmp_ge 28 dX0_endOfRun_6 (by decide) (fun c6 => ?_) (fun c6 => ?_)
    · rw [← h3] at kk
      exact kk
    · exact absurd (nI_le (Nat.le_refl _) (by omega)) c6
  | succ k ih =>
    intro p h1 h2 h3
    unfold rE at h3
    refine z_iload_n dX0_endOfRun_4 rfl ?_
    refine z_iload_n dX0_endOfRun_5 rfl ?_
    refine z_icmp_ge 28 dX0_endOfRun_6 (by decide) (fun c6 => ?_) (fun c6 => ?_)
    · exact absurd c6 (nI_ge (by omega) (by omega))
    · refine z_aload_n dX0_endOfRun_9 rfl ?_
      refine z_iload_n dX0_endOfRun_10 rfl ?_
      refine s_callV1 l_Bits_37 (C_Bits_has ha (by omega)) (by assumption) dX0_endOfRun_11 rfl rfl (Nat.le_of_ble_eq_true rfl) ⟨⟨by decide, by decide⟩, by decide, by decide⟩ ?_
      refine z_aload_n dX0_endOfRun_14 rfl ?_
      refine z_iload_n dX0_endOfRun_15 rfl ?_
      refine s_callV1 l_Bits_37 (C_Bits_has ha (by omega)) (by assumption) dX0_endOfRun_16 rfl rfl (Nat.le_of_ble_eq_true rfl) ⟨⟨by decide, by decide⟩, by decide, by decide⟩ ?_
      refine z_icmp_ne 28 dX0_endOfRun_19 (by decide) (fun c19 => ?_) (fun c19 => ?_)
      · rw [if_neg (fun q => c19 (by rw [q.2]))] at h3
        rw [← h3] at kk
        exact kk
      · rw [if_pos ⟨by omega, zo_inj.mp c19⟩] at h3
        refine z_iinc (lv' := [_, _, _, _]) 1 dX0_endOfRun_22 rfl (by decide) rfl rfl ?_
        refine z_goto 4 dX0_endOfRun_25 (by decide) ?_
        rw [nI_1]
        exact ih (p + 1) (by omega) (by omega) h3
theorem C_Bits_endOfRun {s : Nat} (ha : sh a = some kB) (hs : s < n) (hn : n ≤ 128) : zD G m_Bits_endOfRun 2 sh [.ref a, .int (nI s), .int (nI n)] S (some (.int (nI (rEnd (bq S a) s n)))) S := by
  refine s_methD 1 ⟨p_Bits, rfl, Nat.le_of_ble_eq_true rfl⟩ rfl (fun sz => ?_)
  have back : zW G m_Bits_endOfRun (zRm 2 0 0) (zFm G (zQe (some (.int (nI (rEnd (bq S a) s n)))) (zhp sh S) sz) 0 0) 0 0 28 [some (.ref a), some (.int (nI s)), some (.int (nI n)), some (.int (nI (rEnd (bq S a) s n)))] [] (zhp sh S) sz := by
    refine z_iload_n dX0_endOfRun_28 rfl ?_
    refine z_ireturn dX0_endOfRun_29 rfl rfl ⟨Nat.le_refl _, Nat.le_refl _⟩ ?_
    exact ⟨rfl, rfl, rfl⟩
  refine z_iload_n dX0_endOfRun_0 rfl ?_
  refine z_iconst 1 dX0_endOfRun_1 rfl ?_
  refine z_iadd dX0_endOfRun_2 ?_
  refine z_istore_n (lv' := [_, _, _, _]) dX0_endOfRun_3 (by decide) rfl ?_
  rw [nI_1]
  exact L_endOfRun ha hs hn back _ (s + 1) rfl (by omega) rfl
theorem L_startOfRun {F : zFin} {sz k n : Nat} (ha : sh a = some kB) (hk : k < runsN (bq S a) n) (hn : n ≤ 128) (kk : zW G m_Bits_startOfRun (zRm (3) 0 0) F 0 0 36 [some (.ref a), some (.int (nI k)), some (.int (nI n)), some (.int (nI (rSt (bq S a) n k))), some (.int (nI k))] [] (zhp sh S) sz) :
    ∀ d i, k - i = d → i ≤ k → zW G m_Bits_startOfRun (zRm (3) 0 0) F 0 0 17 [some (.ref a), some (.int (nI k)), some (.int (nI n)), some (.int (nI (rSt (bq S a) n i))), some (.int (nI i))] [] (zhp sh S) sz := by
  have hk2 : k < 128 := Nat.lt_of_lt_of_le hk (Nat.le_trans (runsN_le _ _) hn)
  intro d
  induction d with
  | zero =>
    intro i h1 h2
    have hp : i = k := by omega
    subst hp
    refine z_iload dX0_startOfRun_17 rfl ?_
    refine z_iload_n dX0_startOfRun_19 rfl ?_
    refine z_icmp_ge 36 dX0_startOfRun_20 (by decide) (fun c20 => ?_) (fun c20 => ?_)
    · exact kk
    · exact absurd (nI_le (Nat.le_refl _) (by omega)) c20
  | succ d ih =>
    intro i h1 h2
    have hst := (rSt_spec (f := bq S a) (n := n) i (by omega)).1
    refine z_iload dX0_startOfRun_17 rfl ?_
    refine z_iload_n dX0_startOfRun_19 rfl ?_
    refine z_icmp_ge 36 dX0_startOfRun_20 (by decide) (fun c20 => ?_) (fun c20 => ?_)
    · exact absurd c20 (nI_ge (by omega) (by omega))
    · refine z_aload_n dX0_startOfRun_23 rfl ?_
      refine z_iload_n dX0_startOfRun_24 rfl ?_
      refine z_iload_n dX0_startOfRun_25 rfl ?_
      refine s_callV1 l_Bits_45 (C_Bits_endOfRun ha hst hn) (by assumption) dX0_startOfRun_26 rfl rfl (Nat.le_of_ble_eq_true rfl) ⟨⟨by decide, by decide⟩, by decide, by decide⟩ ?_
      refine z_istore_n (lv' := [_, _, _, _, _]) dX0_startOfRun_29 (by decide) rfl ?_
      refine z_iinc (lv' := [_, _, _, _, _]) 1 dX0_startOfRun_30 rfl (by decide) rfl rfl ?_
      refine z_goto 17 dX0_startOfRun_33 (by decide) ?_
      rw [nI_1]
      exact ih (i + 1) (by omega) (by omega)
theorem C_Bits_startOfRun {k : Nat} (ha : sh a = some kB) (hk : k < 2 ^ 31) (hn : n ≤ 128) : zD G m_Bits_startOfRun 3 sh [.ref a, .int (nI k), .int (nI n)] S (some (.int (if k < runsN (bq S a) n then nI (rSt (bq S a) n k) else -5))) S := by
  have hle := runsN_le (bq S a) n
  refine s_methD 2 ⟨p_Bits, rfl, Nat.le_of_ble_eq_true rfl⟩ rfl (fun sz => ?_)
  refine z_iload_n dX0_startOfRun_0 rfl ?_
  refine z_aload_n dX0_startOfRun_1 rfl ?_
  refine z_iload_n dX0_startOfRun_2 rfl ?_
  refine s_callV1 l_Bits_41 (C_Bits_runsWithin ha hn) (by assumption) dX0_startOfRun_3 rfl rfl (Nat.le_of_ble_eq_true rfl) ⟨⟨by decide, by decide⟩, by decide, by decide⟩ ?_
  refine z_icmp_lt 12 dX0_startOfRun_6 (by decide) (fun c6 => ?_) (fun c6 => ?_)
  · have h := (nI_ltI hk (by omega)).mp c6
    rw [if_pos h]
    refine z_iconst 0 dX0_startOfRun_12 rfl ?_
    refine z_istore_n (lv' := [_, _, _, _, _]) dX0_startOfRun_13 (by decide) rfl ?_
    refine z_iconst 0 dX0_startOfRun_14 rfl ?_
    refine z_istore (lv' := [_, _, _, _, _]) dX0_startOfRun_15 (by decide) rfl ?_
    refine L_startOfRun (k := k) ha h hn ?_ k 0 rfl (Nat.zero_le _)
    all_goals skip
    refine z_iload_n dX0_startOfRun_36 rfl ?_
    refine z_ireturn dX0_startOfRun_37 rfl rfl ⟨Nat.le_refl _, Nat.le_refl _⟩ ?_
    exact ⟨rfl, rfl, rfl⟩
  · rw [if_neg (fun h => c6 (nI_lt h (by omega)))]
    refine z_bipush (-5) dX0_startOfRun_9 (by decide) ?_
    refine z_ireturn dX0_startOfRun_11 rfl rfl ⟨Nat.le_refl _, Nat.le_refl _⟩ ?_
    exact ⟨rfl, rfl, rfl⟩
theorem L_placeOfOne {F : zFin} {sz n : Nat} {k : Int32} (ha : sh a = some kB) (hn : n ≤ 128)
    (k1 : ∀ p w, p < n → kOne (bq S a) n k = nI p → zW G m_Bits_placeOfOne (zRm (2) 0 0) F 0 0 25 [some (.ref a), some (.int k), some (.int (nI n)), some (.int w), some (.int (nI p))] [] (zhp sh S) sz)
    (k2 : kOne (bq S a) n k = -5 → ∀ w v, zW G m_Bits_placeOfOne (zRm (2) 0 0) F 0 0 37 [some (.ref a), some (.int k), some (.int (nI n)), some (.int w), some (.int v)] [] (zhp sh S) sz) :
    ∀ d p, n - p = d → p ≤ n → (∀ q, q < p → bq S a q = true → ¬ nI (fb_ct (bq S a) q) = k) → zW G m_Bits_placeOfOne (zRm (2) 0 0) F 0 0 5 [some (.ref a), some (.int k), some (.int (nI n)), some (.int (nI (fb_ct (bq S a) p))), some (.int (nI p))] [] (zhp sh S) sz := by
  intro d
  induction d with
  | zero =>
    intro p h1 h2 h3
    have hp : p = n := by omega
    subst hp
    refine z_iload dX0_placeOfOne_5 rfl ?_
    refine z_iload_n dX0_placeOfOne_7 rfl ?_
    refine z_icmp_ge 37 dX0_placeOfOne_8 (by decide) (fun c8 => ?_) (fun c8 => ?_)
    · exact k2 (kOne_none h3) _ _
    · exact absurd (nI_le (Nat.le_refl _) (by omega)) c8
  | succ d ih =>
    intro p h1 h2 h3
    refine z_iload dX0_placeOfOne_5 rfl ?_
    refine z_iload_n dX0_placeOfOne_7 rfl ?_
    refine z_icmp_ge 37 dX0_placeOfOne_8 (by decide) (fun c8 => ?_) (fun c8 => ?_)
    · exact absurd c8 (nI_ge (by omega) (by omega))
    · refine z_aload_n dX0_placeOfOne_11 rfl ?_
      refine z_iload dX0_placeOfOne_12 rfl ?_
      refine s_callV1 l_Bits_37 (C_Bits_has ha (by omega)) (by assumption) dX0_placeOfOne_14 rfl rfl (Nat.le_of_ble_eq_true rfl) ⟨⟨by decide, by decide⟩, by decide, by decide⟩ ?_
      refine z_if_eq 31 dX0_placeOfOne_17 (by decide) (fun c17 => ?_) (fun c17 => ?_)
      · have hb := zo_eq0.mp c17
        refine z_iinc (lv' := [_, _, _, _, _]) 1 dX0_placeOfOne_31 rfl (by decide) rfl rfl ?_
        refine z_goto 5 dX0_placeOfOne_34 (by decide) ?_
        rw [nI_1, show nI (fb_ct (bq S a) p) = nI (fb_ct (bq S a) (p + 1)) by rw [fb_ct_succ, hb]; rfl]
        exact ih (p + 1) (by omega) (by omega) (fun q q1 q2 => if hq : q = p then by rw [hq, hb] at q2; cases q2 else h3 q (by omega) q2)
      · have hb := zo_ne0.mp c17
        refine z_iload_n dX0_placeOfOne_20 rfl ?_
        refine z_iload_n dX0_placeOfOne_21 rfl ?_
        refine z_icmp_ne 28 dX0_placeOfOne_22 (by decide) (fun c22 => ?_) (fun c22 => ?_)
        · refine z_iinc (lv' := [_, _, _, _, _]) 1 dX0_placeOfOne_28 rfl (by decide) rfl rfl ?_
          refine z_iinc (lv' := [_, _, _, _, _]) 1 dX0_placeOfOne_31 rfl (by decide) rfl rfl ?_
          refine z_goto 5 dX0_placeOfOne_34 (by decide) ?_
          rw [nI_1, nI_1, show nI (fb_ct (bq S a) p + 1) = nI (fb_ct (bq S a) (p + 1)) by rw [fb_ct_succ, hb]; rfl]
          exact ih (p + 1) (by omega) (by omega) (fun q q1 q2 => if hq : q = p then by rw [hq]; exact c22 else h3 q (by omega) q2)
        · exact k1 p _ (by omega) (kOne_some (by omega) hb c22 (by omega))
theorem C_Bits_placeOfOne {k : Int32} (ha : sh a = some kB) (hn : n ≤ 128) : zD G m_Bits_placeOfOne 2 sh [.ref a, .int k, .int (nI n)] S (some (.int (kOne (bq S a) n k))) S := by
  refine s_methD 2 ⟨p_Bits, rfl, Nat.le_of_ble_eq_true rfl⟩ rfl (fun sz => ?_)
  refine z_iconst 0 dX0_placeOfOne_0 rfl ?_
  refine z_istore_n (lv' := [_, _, _, _, _]) dX0_placeOfOne_1 (by decide) rfl ?_
  refine z_iconst 0 dX0_placeOfOne_2 rfl ?_
  refine z_istore (lv' := [_, _, _, _, _]) dX0_placeOfOne_3 (by decide) rfl ?_
  refine L_placeOfOne ha hn (fun p w hp he => ?_) (fun he w v => ?_) n 0 rfl (Nat.zero_le _) (fun q h => absurd h (Nat.not_lt_zero _))
  · rw [he]
    refine z_iload dX0_placeOfOne_25 rfl ?_
    refine z_ireturn dX0_placeOfOne_27 rfl rfl ⟨Nat.le_refl _, Nat.le_refl _⟩ ?_
    exact ⟨rfl, rfl, rfl⟩
  · rw [he]
    refine z_bipush (-5) dX0_placeOfOne_37 (by decide) ?_
    refine z_ireturn dX0_placeOfOne_39 rfl rfl ⟨Nat.le_refl _, Nat.le_refl _⟩ ?_
    exact ⟨rfl, rfl, rfl⟩
end BITS

