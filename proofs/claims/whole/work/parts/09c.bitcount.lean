/-! ===== bitCount: a word by its bytes ===== -/
def by8 (f : Nat → Nat) : Nat → Nat
  | 0 => 0
  | k + 1 => 2 ^ (8 * k) * f k + by8 f k
theorem by8_lt {f : Nat → Nat} (hf : ∀ i, f i < 256) : ∀ k, by8 f k < 2 ^ (8 * k)
  | 0 => by simp [by8]
  | k + 1 => by
    have h1 := by8_lt hf k
    have h2 := hf k
    show 2 ^ (8 * k) * f k + by8 f k < _
    have e : 2 ^ (8 * (k + 1)) = 2 ^ (8 * k) * 256 := by rw [show 8 * (k + 1) = 8 * k + 8 by omega, Nat.pow_add]
    rw [e]
    have h3 : 2 ^ (8 * k) * f k + 2 ^ (8 * k) ≤ 2 ^ (8 * k) * 256 := by
      rw [← Nat.mul_succ]
      exact Nat.mul_le_mul_left _ h2
    omega
theorem by8_bit {f : Nat → Nat} (hf : ∀ i, f i < 256) : ∀ k j, (by8 f k).testBit j = (decide (j < 8 * k) && (f (j / 8)).testBit (j % 8))
  | 0, j => by simp [by8]
  | k + 1, j => by
    show (2 ^ (8 * k) * f k + by8 f k).testBit j = _
    rw [Nat.testBit_two_pow_mul_add _ (by8_lt hf k)]
    by_cases h : j < 8 * k
    · rw [if_pos h, by8_bit hf k j]
      simp [h, show j < 8 * (k + 1) by omega]
    · rw [if_neg h]
      by_cases h2 : j < 8 * (k + 1)
      · rw [show j / 8 = k by omega, show j % 8 = j - 8 * k by omega]
        simp [h2]
      · have h3 : f k < 2 ^ (j - 8 * k) := Nat.lt_of_lt_of_le (hf k) (show 2 ^ 8 ≤ 2 ^ (j - 8 * k) from Nat.pow_le_pow_right (by decide) (by omega))
        rw [Nat.testBit_lt_two_pow h3]
        simp [h2]
def byt (n i : Nat) : Nat := n / 2 ^ (8 * i) % 256
theorem byt_lt (n i : Nat) : byt n i < 256 := Nat.mod_lt _ (by decide)
theorem byt_bit (n i j : Nat) : (byt n i).testBit j = (decide (j < 8) && n.testBit (8 * i + j)) := by
  unfold byt
  rw [show 256 = 2 ^ 8 from rfl, Nat.testBit_mod_two_pow, Nat.testBit_div_two_pow, Nat.add_comm]
theorem and_bytes {n : Nat} (h m : Nat) (hm : m < 2 ^ (8 - h)) (hh : h < 8) : (n / 2 ^ h) &&& by8 (fun _ => m) 8 = by8 (fun i => byt n i / 2 ^ h &&& m) 8 := by
  have hm8 : m < 256 := Nat.lt_of_lt_of_le hm (show 2 ^ (8 - h) ≤ 2 ^ 8 from Nat.pow_le_pow_right (by decide) (by omega))
  apply Nat.eq_of_testBit_eq
  intro j
  rw [Nat.testBit_and, by8_bit (fun _ => hm8), by8_bit (fun i => Nat.lt_of_le_of_lt Nat.and_le_right hm8), Nat.testBit_and, Nat.testBit_div_two_pow, Nat.testBit_div_two_pow, byt_bit]
  by_cases hb : m.testBit (j % 8) = true
  · have : j % 8 + h < 8 := by
      by_cases q : j % 8 < 8 - h
      · omega
      · exfalso
        rw [Nat.testBit_lt_two_pow (Nat.lt_of_lt_of_le hm (Nat.pow_le_pow_right (by decide) (by omega)))] at hb
        cases hb
    rw [hb, show 8 * (j / 8) + (j % 8 + h) = j + h by omega]
    cases n.testBit (j + h) <;> simp [this]
  · rw [Bool.eq_false_iff.mpr hb]
    simp
theorem byt_by8 {f : Nat → Nat} (hf : ∀ i, f i < 256) {i : Nat} (hi : i < 8) : byt (by8 f 8) i = f i := by
  apply Nat.eq_of_testBit_eq
  intro j
  rw [byt_bit, by8_bit hf]
  by_cases h : j < 8
  · rw [show (8 * i + j) / 8 = i by omega, show (8 * i + j) % 8 = j by omega]
    simp [h, show 8 * i + j < 64 by omega]
  · rw [Nat.testBit_lt_two_pow (Nat.lt_of_lt_of_le (hf i) (show 2 ^ 8 ≤ 2 ^ j from Nat.pow_le_pow_right (by decide) (by omega)))]
    simp [h]
theorem by8_byt {n : Nat} (hn : n < 2 ^ 64) : by8 (byt n) 8 = n := by
  apply Nat.eq_of_testBit_eq
  intro j
  rw [by8_bit (byt_lt n), byt_bit]
  by_cases h : j < 64
  · rw [show 8 * (j / 8) + j % 8 = j by omega]
    simp [h, Nat.mod_lt]
  · have q : n.testBit j = false := Nat.testBit_lt_two_pow (Nat.lt_of_lt_of_le hn (Nat.pow_le_pow_right (by decide) (by omega)))
    rw [q]
    simp [h]
theorem by8_cong {f g : Nat → Nat} (h : ∀ i, i < 8 → f i = g i) : by8 f 8 = by8 g 8 := by
  simp only [by8, h 0 (by decide), h 1 (by decide), h 2 (by decide), h 3 (by decide), h 4 (by decide), h 5 (by decide), h 6 (by decide), h 7 (by decide)]
def zbc8 (b : Nat) : Nat := fb_ct (fun j => b.testBit j) 8
theorem zbc8_eq : ∀ b, b < 256 → (b / 2 ^ 1 &&& 85 ≤ b) ∧ ((b - (b / 2 ^ 1 &&& 85)) / 2 ^ 0 &&& 51) + ((b - (b / 2 ^ 1 &&& 85)) / 2 ^ 2 &&& 51) ≤ 68 ∧ (((b - (b / 2 ^ 1 &&& 85)) / 2 ^ 0 &&& 51) + ((b - (b / 2 ^ 1 &&& 85)) / 2 ^ 2 &&& 51)) % 16 ≤ 4 ∧ (((b - (b / 2 ^ 1 &&& 85)) / 2 ^ 0 &&& 51) + ((b - (b / 2 ^ 1 &&& 85)) / 2 ^ 2 &&& 51)) / 16 ≤ 4 ∧ ((((b - (b / 2 ^ 1 &&& 85)) / 2 ^ 0 &&& 51) + ((b - (b / 2 ^ 1 &&& 85)) / 2 ^ 2 &&& 51)) % 16 + (((b - (b / 2 ^ 1 &&& 85)) / 2 ^ 0 &&& 51) + ((b - (b / 2 ^ 1 &&& 85)) / 2 ^ 2 &&& 51)) / 16) = zbc8 b ∧ zbc8 b ≤ 8 := by decide +kernel
theorem by8_8 (f : Nat → Nat) : by8 f 8 = f 0 + 256 * f 1 + 65536 * f 2 + 16777216 * f 3 + 4294967296 * f 4 + 1099511627776 * f 5 + 281474976710656 * f 6 + 72057594037927936 * f 7 := by
  simp only [by8]
  omega
theorem pc_sub {a b : Nat → Nat} (h : ∀ i, b i ≤ a i) : by8 a 8 - by8 b 8 = by8 (fun i => a i - b i) 8 := by
  have := h 0; have := h 1; have := h 2; have := h 3; have := h 4; have := h 5; have := h 6; have := h 7
  rw [by8_8, by8_8, by8_8]
  omega
theorem pc_add {a b : Nat → Nat} : by8 a 8 + by8 b 8 = by8 (fun i => a i + b i) 8 := by
  rw [by8_8, by8_8, by8_8]
  omega
theorem pc_end {a b c d e f g h : Nat} (f0 : a ≤ 8) (f1 : b ≤ 8) (f2 : c ≤ 8) (f3 : d ≤ 8) (f4 : e ≤ 8) (f5 : f ≤ 8) (f6 : g ≤ 8) (f7 : h ≤ 8) {x : Nat} (hx : a + 256 * b + 65536 * c + 16777216 * d + 4294967296 * e + 1099511627776 * f + 281474976710656 * g + 72057594037927936 * h = x) :
    ((x + x / 2 ^ 8) + (x + x / 2 ^ 8) / 2 ^ 16 + ((x + x / 2 ^ 8) + (x + x / 2 ^ 8) / 2 ^ 16) / 2 ^ 32) % 128 = a + b + c + d + e + f + g + h := by
  have q1 : x / 2 ^ 8 = b + 256 * c + 65536 * d + 16777216 * e + 4294967296 * f + 1099511627776 * g + 281474976710656 * h := by omega
  generalize hy : x + x / 2 ^ 8 = y
  have hy2 : y = (a + b) + 256 * (b + c) + 65536 * (c + d) + 16777216 * (d + e) + 4294967296 * (e + f) + 1099511627776 * (f + g) + 281474976710656 * (g + h) + 72057594037927936 * h := by omega
  clear hy q1 hx
  have q2 : y / 2 ^ 16 = (c + d) + 256 * (d + e) + 65536 * (e + f) + 16777216 * (f + g) + 4294967296 * (g + h) + 1099511627776 * h := by omega
  generalize hw : y + y / 2 ^ 16 = w
  have hw2 : w = (a + b + c + d) + 256 * (b + c + d + e) + 65536 * (c + d + e + f) + 16777216 * (d + e + f + g) + 4294967296 * (e + f + g + h) + 1099511627776 * (f + g + h) + 281474976710656 * (g + h) + 72057594037927936 * h := by omega
  clear hw q2 hy2
  have q3 : w / 2 ^ 32 = (e + f + g + h) + 256 * (f + g + h) + 65536 * (g + h) + 16777216 * h := by omega
  rw [q3]
  omega
/-- the six steps, over bytes -/
theorem pc_all {n : Nat} (hn : n < 2 ^ 64) : ∃ x1 x2 x3 : Nat, x1 = n - (n / 2 ^ 1 &&& by8 (fun _ => 85) 8) ∧ n / 2 ^ 1 &&& by8 (fun _ => 85) 8 ≤ n ∧ x2 = (x1 &&& by8 (fun _ => 51) 8) + (x1 / 2 ^ 2 &&& by8 (fun _ => 51) 8) ∧ x3 = (x2 + x2 / 2 ^ 4) &&& by8 (fun _ => 15) 8 ∧ x1 < 2 ^ 64 ∧ x2 < 2 ^ 63 ∧ x2 + x2 / 2 ^ 4 < 2 ^ 64 ∧
    x3 < 2 ^ 60 ∧ ((x3 + x3 / 2 ^ 8) + (x3 + x3 / 2 ^ 8) / 2 ^ 16 + ((x3 + x3 / 2 ^ 8) + (x3 + x3 / 2 ^ 8) / 2 ^ 16) / 2 ^ 32) % 128 = zbc8 (byt n 0) + zbc8 (byt n 1) + zbc8 (byt n 2) + zbc8 (byt n 3) + zbc8 (byt n 4) + zbc8 (byt n 5) + zbc8 (byt n 6) + zbc8 (byt n 7) := by
  have hc : ∀ i, byt n i / 2 ^ 1 &&& 85 ≤ byt n i := fun i => (zbc8_eq _ (byt_lt n i)).1
  have e0 : n / 2 ^ 1 &&& by8 (fun _ => 85) 8 = by8 (fun i => byt n i / 2 ^ 1 &&& 85) 8 := and_bytes 1 85 (by decide) (by decide)
  have e1 : n - (n / 2 ^ 1 &&& by8 (fun _ => 85) 8) = by8 (fun i => byt n i - (byt n i / 2 ^ 1 &&& 85)) 8 := by
    rw [e0, ← pc_sub hc, by8_byt hn]
  have le0 : n / 2 ^ 1 &&& by8 (fun _ => 85) 8 ≤ n := Nat.le_trans Nat.and_le_left (Nat.div_le_self _ _)
  generalize hC : (fun i => byt n i - (byt n i / 2 ^ 1 &&& 85)) = C at e1
  have hCl : ∀ i, C i < 256 := fun i => by rw [← hC]; have := byt_lt n i; show byt n i - _ < 256; omega
  have l1 : by8 C 8 < 2 ^ 64 := by8_lt hCl 8
  have e2 : (by8 C 8 &&& by8 (fun _ => 51) 8) + (by8 C 8 / 2 ^ 2 &&& by8 (fun _ => 51) 8) = by8 (fun i => (C i / 2 ^ 0 &&& 51) + (C i / 2 ^ 2 &&& 51)) 8 := by
    have a1 := and_bytes (n := by8 C 8) 0 51 (by decide) (by decide)
    have a2 := and_bytes (n := by8 C 8) 2 51 (by decide) (by decide)
    rw [Nat.pow_zero, Nat.div_one] at a1
    rw [a1, a2, pc_add]
    refine by8_cong (fun i hi => ?_)
    rw [byt_by8 hCl hi]
  generalize hE : (fun i => (C i / 2 ^ 0 &&& 51) + (C i / 2 ^ 2 &&& 51)) = E at e2
  have hz : ∀ i, E i ≤ 68 ∧ E i % 16 ≤ 4 ∧ E i / 16 ≤ 4 ∧ E i % 16 + E i / 16 = zbc8 (byt n i) ∧ zbc8 (byt n i) ≤ 8 := fun i => by
    rw [← hE, ← hC]
    exact (zbc8_eq _ (byt_lt n i)).2
  have z0 := hz 0; have z1 := hz 1; have z2 := hz 2; have z3 := hz 3; have z4 := hz 4; have z5 := hz 5; have z6 := hz 6; have z7 := hz 7
  have e3 : by8 E 8 + by8 E 8 / 2 ^ 4 = by8 (fun i => E i + E i / 16 + 16 * (if i < 7 then E (i + 1) % 16 else 0)) 8 := by
    rw [by8_8, by8_8]
    simp only [show (0 : Nat) < 7 by decide, show (1 : Nat) < 7 by decide, show (2 : Nat) < 7 by decide, show (3 : Nat) < 7 by decide, show (4 : Nat) < 7 by decide, show (5 : Nat) < 7 by decide, show (6 : Nat) < 7 by decide, show ¬ (7 : Nat) < 7 by decide, if_true, if_false, Nat.zero_add, Nat.reduceAdd]
    omega
  generalize hY : (fun i => E i + E i / 16 + 16 * (if i < 7 then E (i + 1) % 16 else 0)) = Y at e3
  have hYl : ∀ i, Y i < 256 := fun i => by
    rw [← hY]
    have a := hz i
    have b := hz (i + 1)
    show E i + E i / 16 + 16 * (if i < 7 then E (i + 1) % 16 else 0) < 256
    split <;> omega
  have hYz : ∀ i, Y i % 16 = zbc8 (byt n i) := fun i => by
    rw [← hY]
    have a := hz i
    show (E i + E i / 16 + 16 * (if i < 7 then E (i + 1) % 16 else 0)) % 16 = _
    omega
  have e4 : by8 Y 8 &&& by8 (fun _ => 15) 8 = by8 (fun i => zbc8 (byt n i)) 8 := by
    have a1 := and_bytes (n := by8 Y 8) 0 15 (by decide) (by decide)
    rw [Nat.pow_zero, Nat.div_one] at a1
    have m : ∀ k, k &&& 15 = k % 16 := fun k => Nat.and_two_pow_sub_one_eq_mod k 4
    rw [a1]
    refine by8_cong (fun i hi => ?_)
    rw [byt_by8 hYl hi, m, Nat.div_one]
    exact hYz i
  have l2 : by8 E 8 < 2 ^ 63 := by rw [by8_8]; omega
  have l3 : by8 (fun i => zbc8 (byt n i)) 8 < 2 ^ 60 := by rw [by8_8]; omega
  refine ⟨by8 C 8, by8 E 8, by8 (fun i => zbc8 (byt n i)) 8, e1.symm, le0, e2.symm, (e3 ▸ e4.symm), l1, l2, by omega, l3, ?_⟩
  rw [by8_8]
  have f0 := z0.2.2.2.2; have f1 := z1.2.2.2.2; have f2 := z2.2.2.2.2; have f3 := z3.2.2.2.2; have f4 := z4.2.2.2.2; have f5 := z5.2.2.2.2; have f6 := z6.2.2.2.2; have f7 := z7.2.2.2.2
  clear z0 z1 z2 z3 z4 z5 z6 z7 hz hYz hYl e4 e3 e2 e1 l3 l2 l1
  exact pc_end f0 f1 f2 f3 f4 f5 f6 f7 rfl
theorem zbc_sum {n : Nat} : fb_ct (fun j => n.testBit j) 64 = zbc8 (byt n 0) + zbc8 (byt n 1) + zbc8 (byt n 2) + zbc8 (byt n 3) + zbc8 (byt n 4) + zbc8 (byt n 5) + zbc8 (byt n 6) + zbc8 (byt n 7) := by
  have b : ∀ i, zbc8 (byt n i) = fb_ct (fun k => n.testBit (8 * i + k)) 8 := fun i => fb_ct_cong (fun k hk => by rw [byt_bit]; simp [hk])
  rw [b, b, b, b, b, b, b, b]
  have s := fun m k => fb_ct_split (fun j => n.testBit j) m k
  rw [show (64 : Nat) = 56 + 8 from rfl, s, show (56 : Nat) = 48 + 8 from rfl, s, show (48 : Nat) = 40 + 8 from rfl, s, show (40 : Nat) = 32 + 8 from rfl, s, show (32 : Nat) = 24 + 8 from rfl, s, show (24 : Nat) = 16 + 8 from rfl, s, show (16 : Nat) = 8 + 8 from rfl, s]
  simp only [Nat.mul_zero, Nat.zero_add]
section BC
variable {G : zG} {sh : Nat → Option zSh} {S : zSt}
theorem wb_shr' {n k : Nat} (hn : n < 2 ^ 64) (hk : k < 64) {v : Int32} (hv : nI k = v) : ((lN n).toUInt64 >>> (v.toInt64.toUInt64 &&& Int64.toUInt64 63)).toInt64 = lN (n / 2 ^ k) := by
  rw [← hv]; exact wb_shr hn hk
theorem C_bitCount {x : Int64} : zD G m_JLong_bitCount 1 sh [.long x] S (some (.int (nI (fb_ct (zw x) 64)))) S := by
  obtain ⟨n, hn, rfl⟩ := wb_of x
  have hcount : fb_ct (zw (lN n)) 64 = zbc8 (byt n 0) + zbc8 (byt n 1) + zbc8 (byt n 2) + zbc8 (byt n 3) + zbc8 (byt n 4) + zbc8 (byt n 5) + zbc8 (byt n 6) + zbc8 (byt n 7) := by
    rw [← zbc_sum]
    exact fb_ct_cong (fun k hk => by unfold zw; rw [wb_tb, BitVec.getLsbD_ofNat]; simp [hk])
  obtain ⟨x1, x2, x3, e1, le0, e2, e3, l1, l2, l2', l3, e4⟩ := pc_all hn
  have m5 : (6148914691236517205 : Int64) = lN (by8 (fun _ => 85) 8) := by decide +kernel
  have m3 : (3689348814741910323 : Int64) = lN (by8 (fun _ => 51) 8) := by decide +kernel
  have mF : (1085102592571150095 : Int64) = lN (by8 (fun _ => 15) 8) := by decide +kernel
  have b5 : by8 (fun _ => 85) 8 < 2 ^ 64 := by decide +kernel
  have b3 : by8 (fun _ => 51) 8 < 2 ^ 64 := by decide +kernel
  have bF : by8 (fun _ => 15) 8 < 2 ^ 64 := by decide +kernel
  have d3 : x3 / 2 ^ 8 ≤ x3 := Nat.div_le_self _ _
  have d4 : (x3 + x3 / 2 ^ 8) / 2 ^ 16 ≤ x3 + x3 / 2 ^ 8 := Nat.div_le_self _ _
  refine s_methD 0 ⟨p_JLong, rfl, Nat.le_of_ble_eq_true rfl⟩ rfl (fun sz => ?_)
  refine z_lload_n dJ13_bitCount_95d88_0 rfl ?_
  refine z_lload_n dJ13_bitCount_95d88_1 rfl ?_
  refine z_iconst 1 dJ13_bitCount_95d88_2 rfl ?_
  refine z_lushr dJ13_bitCount_95d88_3 ?_
  refine z_ldc2 (6148914691236517205) v_JLong_314 dJ13_bitCount_95d88_4 ?_
  refine z_land dJ13_bitCount_95d88_7 ?_
  refine z_lsub dJ13_bitCount_95d88_8 ?_
  rw [m5, wb_shr' (k := 1) (v := 1) hn (by decide) rfl, wb_and (Nat.lt_of_le_of_lt (Nat.div_le_self _ _) hn) b5, lN_sub le0, ← e1]
  refine z_lstore_n (lv' := [_, _]) dJ13_bitCount_95d88_9 (by decide) rfl ?_
  refine z_lload_n dJ13_bitCount_95d88_10 rfl ?_
  refine z_ldc2 (3689348814741910323) v_JLong_316 dJ13_bitCount_95d88_11 ?_
  refine z_land dJ13_bitCount_95d88_14 ?_
  refine z_lload_n dJ13_bitCount_95d88_15 rfl ?_
  refine z_iconst 2 dJ13_bitCount_95d88_16 rfl ?_
  refine z_lushr dJ13_bitCount_95d88_17 ?_
  refine z_ldc2 (3689348814741910323) v_JLong_316 dJ13_bitCount_95d88_18 ?_
  refine z_land dJ13_bitCount_95d88_21 ?_
  refine z_ladd dJ13_bitCount_95d88_22 ?_
  rw [m3, wb_and l1 b3, wb_shr' (k := 2) (v := 2) l1 (by decide) rfl, wb_and (Nat.lt_of_le_of_lt (Nat.div_le_self _ _) l1) b3, lN_add, ← e2]
  refine z_lstore_n (lv' := [_, _]) dJ13_bitCount_95d88_23 (by decide) rfl ?_
  refine z_lload_n dJ13_bitCount_95d88_24 rfl ?_
  refine z_lload_n dJ13_bitCount_95d88_25 rfl ?_
  refine z_iconst 4 dJ13_bitCount_95d88_26 rfl ?_
  refine z_lushr dJ13_bitCount_95d88_27 ?_
  refine z_ladd dJ13_bitCount_95d88_28 ?_
  refine z_ldc2 (1085102592571150095) v_JLong_318 dJ13_bitCount_95d88_29 ?_
  refine z_land dJ13_bitCount_95d88_32 ?_
  rw [mF, wb_shr' (k := 4) (v := 4) (by omega) (by decide) rfl, lN_add, wb_and l2' bF, ← e3]
  refine z_lstore_n (lv' := [_, _]) dJ13_bitCount_95d88_33 (by decide) rfl ?_
  refine z_lload_n dJ13_bitCount_95d88_34 rfl ?_
  refine z_lload_n dJ13_bitCount_95d88_35 rfl ?_
  refine z_bipush 8 dJ13_bitCount_95d88_36 (by decide) ?_
  refine z_lushr dJ13_bitCount_95d88_38 ?_
  refine z_ladd dJ13_bitCount_95d88_39 ?_
  rw [wb_shr' (k := 8) (v := 8) (by omega) (by decide) rfl, lN_add]
  refine z_lstore_n (lv' := [_, _]) dJ13_bitCount_95d88_40 (by decide) rfl ?_
  refine z_lload_n dJ13_bitCount_95d88_41 rfl ?_
  refine z_lload_n dJ13_bitCount_95d88_42 rfl ?_
  refine z_bipush 16 dJ13_bitCount_95d88_43 (by decide) ?_
  refine z_lushr dJ13_bitCount_95d88_45 ?_
  refine z_ladd dJ13_bitCount_95d88_46 ?_
  rw [wb_shr' (k := 16) (v := 16) (by omega) (by decide) rfl, lN_add]
  refine z_lstore_n (lv' := [_, _]) dJ13_bitCount_95d88_47 (by decide) rfl ?_
  refine z_lload_n dJ13_bitCount_95d88_48 rfl ?_
  refine z_lload_n dJ13_bitCount_95d88_49 rfl ?_
  refine z_bipush 32 dJ13_bitCount_95d88_50 (by decide) ?_
  refine z_lushr dJ13_bitCount_95d88_52 ?_
  refine z_ladd dJ13_bitCount_95d88_53 ?_
  rw [wb_shr' (k := 32) (v := 32) (by omega) (by decide) rfl, lN_add]
  refine z_lstore_n (lv' := [_, _]) dJ13_bitCount_95d88_54 (by decide) rfl ?_
  refine z_lload_n dJ13_bitCount_95d88_55 rfl ?_
  refine z_l2i dJ13_bitCount_95d88_56 ?_
  refine z_bipush 127 dJ13_bitCount_95d88_57 (by decide) ?_
  refine z_iand dJ13_bitCount_95d88_59 ?_
  refine z_ireturn dJ13_bitCount_95d88_60 rfl rfl ⟨Nat.le_refl _, Nat.le_refl _⟩ ?_
  rw [lN_i, show (127 : Int32) = nI 127 from rfl, nx_and, show (127 : Nat) = 2 ^ 7 - 1 from rfl, Nat.and_two_pow_sub_one_eq_mod, show 2 ^ 7 = 128 from rfl, e4, hcount]
  exact ⟨rfl, rfl, rfl⟩
end BC

