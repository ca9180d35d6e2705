/-! ===== numbers: bits of a long ===== -/
def zo (b : Bool) : Int32 := if b then 1 else 0
theorem zo_t : zo true = 1 := rfl
theorem zo_f : zo false = 0 := rfl
theorem zo_eq0 {b : Bool} : zo b = 0 ↔ b = false := by cases b <;> decide
theorem zo_ne0 {b : Bool} : ¬ zo b = 0 ↔ b = true := by cases b <;> decide
theorem zo_inj {b c : Bool} : zo b = zo c ↔ b = c := by cases b <;> cases c <;> decide
theorem zo_nar {b : Bool} : narrow .boolean (.int (zo b)) = .int (zo b) := by cases b <;> rfl
theorem lgc0 {x y : Int64} : lg_cmp x y = 0 ↔ x = y := by
  unfold lg_cmp
  by_cases h : x > y
  · rw [if_pos h]
    refine ⟨fun q => absurd q (by decide), fun q => ?_⟩
    subst q
    exact absurd h (by simp [GT.gt])
  · rw [if_neg h]
    by_cases h2 : x = y
    · simp [h2]
    · rw [if_neg h2]
      exact ⟨fun q => absurd q (by decide), fun q => absurd q h2⟩
theorem p_Bits : plainName RX0 = true := by decide
theorem p_Groups : plainName RX1 = true := by decide
theorem p_Pairs : plainName RX2 = true := by decide
theorem p_Query : plainName RX3 = true := by decide
theorem p_Reader : plainName RX4 = true := by decide
theorem p_Rows : plainName RX5 = true := by decide
theorem p_State : plainName RX6 = true := by decide
theorem p_Tape : plainName RX7 = true := by decide
theorem p_Work : plainName RX8 = true := by decide
theorem p_RC : plainName RX9 = true := by decide
theorem p_Mo : plainName RX10 = true := by decide
theorem p_JLong : plainName RJ13 = true := by decide
theorem p_JStr : plainName RJ0 = true := by decide
theorem p_JLat : plainName RJ1 = true := by decide
theorem p_JArr : plainName RJ7 = true := by decide
theorem p_JPre : plainName RJ3 = true := by decide
/-- bit i of a long -/
def zw (x : Int64) (i : Nat) : Bool := x.toBitVec.getLsbD i
theorem zw_ext {x y : Int64} (h : ∀ i, i < 64 → zw x i = zw y i) : x = y := by
  apply Int64.toBitVec_inj.mp
  exact BitVec.eq_of_getLsbD_eq h
theorem zw_and (x y : Int64) (i : Nat) : zw (x &&& y) i = (zw x i && zw y i) := by
  simp [zw]
theorem zw_or (x y : Int64) (i : Nat) : zw (x ||| y) i = (zw x i || zw y i) := by
  simp [zw]
theorem zw_xor (x y : Int64) (i : Nat) : zw (x ^^^ y) i = (zw x i ^^ zw y i) := by
  simp [zw]
theorem zw_m1 (i : Nat) (h : i < 64) : zw (-1) i = true := by
  have : ∀ i, i < 64 → zw (-1) i = true := by decide +kernel
  exact this i h
theorem zw_0 (i : Nat) : zw 0 i = false := by simp [zw]
theorem zw_ge (x : Int64) {i : Nat} (h : 64 ≤ i) : zw x i = false := BitVec.getLsbD_of_ge _ _ h
theorem sh_amt : ∀ j, j < 128 → (((nI j) &&& 63).toInt64.toUInt64 &&& Int64.toUInt64 63) = UInt64.ofNat (j % 64) := by decide +kernel
theorem sh_amtl : ∀ j, j < 128 → (((nI j) &&& 63).toInt64 &&& 63) = Int64.ofNat (j % 64) := by decide +kernel
theorem zw_shr (x : Int64) {m : Nat} (hm : m < 64) (i : Nat) : zw (x.toUInt64 >>> UInt64.ofNat m).toInt64 i = zw x (m + i) := by
  unfold zw
  show ((x.toUInt64 >>> UInt64.ofNat m).toBitVec).getLsbD i = _
  rw [UInt64.toBitVec_shiftRight]
  have e : ((UInt64.ofNat m).toBitVec % 64).toNat = m := by
    simp
    omega
  rw [BitVec.ushiftRight_eq', e, BitVec.getLsbD_ushiftRight]
  rfl
theorem zw_shl (x : Int64) {m : Nat} (hm : m < 64) {i : Nat} (hi : i < 64) : zw (x <<< Int64.ofNat m) i = (decide (m ≤ i) && zw x (i - m)) := by
  unfold zw
  rw [Int64.toBitVec_shiftLeft]
  have e : ((Int64.ofNat m).toBitVec.smod 64).toNat = m := by
    have : ∀ m, m < 64 → ((Int64.ofNat m).toBitVec.smod 64).toNat = m := by decide +kernel
    exact this m hm
  rw [BitVec.shiftLeft_eq', e, BitVec.getLsbD_shiftLeft]
  by_cases h : m ≤ i
  · simp [h, hi, show ¬ i < m by omega]
  · simp [h, show i < m by omega]
theorem zw_1 (i : Nat) (h : i < 64) : zw 1 i = decide (i = 0) := by
  have : ∀ i, i < 64 → zw 1 i = decide (i = 0) := by decide +kernel
  exact this i h
theorem zw_bit0 (x : Int64) : (x &&& 1 = 0) ↔ zw x 0 = false := by
  constructor
  · intro h
    have h1 : zw (x &&& 1) 0 = zw 0 0 := by rw [h]
    rw [zw_and, zw_1 0 (by decide), zw_0] at h1
    simpa using h1
  · intro h
    refine zw_ext (fun i hi => ?_)
    rw [zw_and, zw_1 i hi, zw_0]
    by_cases h0 : i = 0
    · subst h0; simp [h]
    · simp [h0]
/-- what has() asks of a word -/
theorem has_eq (x : Int64) {j : Nat} (hj : j < 128) : ((x.toUInt64 >>> (((nI j) &&& 63).toInt64.toUInt64 &&& Int64.toUInt64 63)).toInt64 &&& 1 = 0) ↔ zw x (j % 64) = false := by
  rw [sh_amt j hj, zw_bit0, zw_shr x (Nat.mod_lt _ (by decide)), Nat.add_zero]
/-- bit j of a row of 128 bits -/
abbrev kB : zSh := .inl (0, [some none, some none])
def bq (S : zSt) (a j : Nat) : Bool := if j < 64 then zw (zl S a 0) j else zw (zl S a 1) (j - 64)
theorem nI_lt64 {j : Nat} (hj : j < 2 ^ 31) : ((64 : Int32) ≤ nI j) ↔ 64 ≤ j := nI_leI (a := 64) (by decide) hj

