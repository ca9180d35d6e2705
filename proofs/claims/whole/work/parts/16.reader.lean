/-! ===== Reader ===== -/
theorem wl_sh : ∀ i, i < 7 → Int32.ofNat (wln i) >>> ((0 : Int32) &&& 31) = nI (wln i) := by decide
theorem wb_ch : ∀ i, i < 7 → ∀ k, k < wln i → ((wby i k &&& 255).toUInt32 % 65536).toInt32 = wby i k := by decide +kernel
theorem wb_nar : ∀ i, i < 7 → ∀ k, k < wln i → narrow .char (.int (wby i k)) = .int (wby i k) := by decide +kernel
theorem rrm {M' : zM} {d' D : Nat} (h1 : d' + 1 ≤ D) (h2 : zml M' ≤ 21) : zRR (zRm D 0 0) M' d' 0 0 0 0 := by
  refine ⟨⟨h1, ?_⟩, Nat.le_refl _, Nat.le_refl _⟩
  show 8 + (zml M' + 11) + 40 * d' ≤ 40 * D
  omega
section STR
variable {G : zG} {ah : zH} {sz i k : Nat}
theorem C_JStr_coder (hi : i < 7) (ah : zH) (sz : Nat) : zCe G m_JStr_coder 1 [.ref (zsK G i)] ah sz (some (.int 0)) ah := by
  refine z_meth 0 ⟨p_JStr, rfl, Nat.le_of_ble_eq_true rfl⟩ rfl ?_
  refine z_gets f_JStr_38 dJ0_coder_7d493_0 ?_
  refine z_if_eq 13 dJ0_coder_7d493_3 (by decide) (fun c3 => ?_) (fun c3 => ?_)
  · exact absurd c3 (by decide)
  · refine z_aload_n dJ0_coder_7d493_6 rfl ?_
    refine z_getSc hi f_JStr_15 dJ0_coder_7d493_7 ?_
    refine z_goto 14 dJ0_coder_7d493_10 (by decide) ?_
    refine z_ireturn dJ0_coder_7d493_14 rfl rfl ⟨Nat.le_refl _, Nat.le_refl _⟩ ?_
    exact ⟨rfl, rfl, rfl⟩
theorem C_JStr_isLatin1 (hi : i < 7) (ah : zH) (sz : Nat) : zCe G m_JStr_isLatin1 1 [.ref (zsK G i)] ah sz (some (.int 1)) ah := by
  refine z_meth 0 ⟨p_JStr, rfl, Nat.le_of_ble_eq_true rfl⟩ rfl ?_
  refine z_gets f_JStr_38 dJ0_isLatin1_aae02_0 ?_
  refine z_if_eq 17 dJ0_isLatin1_aae02_3 (by decide) (fun c3 => ?_) (fun c3 => ?_)
  · exact absurd c3 (by decide)
  · refine z_aload_n dJ0_isLatin1_aae02_6 rfl ?_
    refine z_getSc hi f_JStr_15 dJ0_isLatin1_aae02_7 ?_
    refine z_if_ne 17 dJ0_isLatin1_aae02_10 (by decide) (fun c10 => ?_) (fun c10 => ?_)
    · exact absurd rfl c10
    · refine z_iconst 1 dJ0_isLatin1_aae02_13 rfl ?_
      refine z_goto 18 dJ0_isLatin1_aae02_14 (by decide) ?_
      refine z_ireturn dJ0_isLatin1_aae02_18 rfl rfl ⟨Nat.le_refl _, Nat.le_refl _⟩ ?_
      exact ⟨rfl, rfl, rfl⟩
theorem C_JStr_length (hi : i < 7) (ah : zH) (sz : Nat) : zCe G m_JStr_length 2 [.ref (zsK G i)] ah sz (some (.int (nI (wln i)))) ah := by
  refine z_meth 0 ⟨p_JStr, rfl, Nat.le_of_ble_eq_true rfl⟩ rfl ?_
  refine z_aload_n dJ0_length_8abf5_0 rfl ?_
  refine z_getSv hi f_JStr_9 dJ0_length_8abf5_1 ?_
  refine z_alenS _ (by assumption) rfl dJ0_length_8abf5_4 ?_
  refine z_aload_n dJ0_length_8abf5_5 rfl ?_
  refine z_callVS hi rfl l_JStr_335 (C_JStr_coder hi ah _) dJ0_length_8abf5_6 rfl rfl (Nat.le_of_ble_eq_true rfl) ⟨⟨by decide, by decide⟩, by decide, by decide⟩ (fun r6 h6 z6 q6 => ?_)
  obtain ⟨rfl, rfl, rfl⟩ := q6
  refine z_ishr dJ0_length_8abf5_9 ?_
  refine z_ireturn dJ0_length_8abf5_10 rfl rfl ⟨Nat.le_refl _, Nat.le_refl _⟩ ?_
  rw [wl_sh i hi]
  exact ⟨rfl, rfl, rfl⟩
theorem C_JPre_checkIndex {n : Nat} {v : Value} (hk : k < n) (hn : n < 2 ^ 31) (hv : v.category = 1) (ah : zH) (sz : Nat) : zCe G m_JPre_checkIndex 1 [.int (nI k), .int (nI n), v] ah sz (some (.int (nI k))) ah := by
  have hsl : (lg_sl [Value.int (nI k), Value.int (nI n), v]).length ≤ 3 := by
    cases v <;> first | exact Nat.le_of_ble_eq_true rfl | exact absurd hv (show ¬ (2 : Nat) = 1 by decide)
  refine z_meth 0 ⟨p_JPre, rfl, hsl⟩ rfl ?_
  refine z_iload_n dJ3_checkIndex_8e157_0 rfl ?_
  refine z_if_lt 9 dJ3_checkIndex_8e157_1 (by decide) (fun c1 => ?_) (fun c1 => ?_)
  · exact absurd c1 (Int32.not_lt.mpr (nI_le (a := 0) (Nat.zero_le _) (by omega)))
  · refine z_iload_n dJ3_checkIndex_8e157_4 rfl ?_
    refine z_iload_n dJ3_checkIndex_8e157_5 rfl ?_
    refine z_icmp_lt 16 dJ3_checkIndex_8e157_6 (by decide) (fun c6 => ?_) (fun c6 => ?_)
    · refine z_iload_n dJ3_checkIndex_8e157_16 rfl ?_
      refine z_ireturn dJ3_checkIndex_8e157_17 rfl rfl ⟨Nat.le_refl _, Nat.le_refl _⟩ ?_
      exact ⟨rfl, rfl, rfl⟩
    · exact absurd (nI_lt hk hn) c6
theorem C_JStr_checkIndex {n : Nat} (hk : k < n) (hn : n < 2 ^ 31) (ah : zH) (sz : Nat) : zCe G m_JStr_checkIndex 2 [.int (nI k), .int (nI n)] ah sz none ah := by
  refine z_meth 0 ⟨p_JStr, rfl, Nat.le_of_ble_eq_true rfl⟩ rfl ?_
  refine z_iload_n dJ0_checkIndex_df160_0 rfl ?_
  refine z_iload_n dJ0_checkIndex_df160_1 rfl ?_
  refine z_getsF f_JStr_1053 dJ0_checkIndex_df160_2 (fun hfv => ?_)
  refine z_callS1 l_JStr_1059 (C_JPre_checkIndex hk hn hfv ah sz) dJ0_checkIndex_df160_5 rfl rfl (Nat.le_of_ble_eq_true rfl) ⟨⟨by decide, by decide⟩, by decide, by decide⟩ ?_
  refine z_pop dJ0_checkIndex_df160_8 rfl ?_
  refine z_return dJ0_checkIndex_df160_9 rfl ⟨Nat.le_refl _, Nat.le_refl _⟩ ?_
  exact ⟨rfl, rfl, rfl⟩
theorem C_JLat_charAt (hi : i < 7) (hk : k < wln i) (ah : zH) (sz : Nat) : zCe G m_JLat_charAt 3 [.ref (zsV G i), .int (nI k)] ah sz (some (.int (wby i k))) ah := by
  have h5 := wln_pos i hi
  refine z_meth 0 ⟨p_JLat, rfl, Nat.le_of_ble_eq_true rfl⟩ rfl ?_
  refine z_iload_n dJ1_charAt_3b067_0 rfl ?_
  refine z_aload_n dJ1_charAt_3b067_1 rfl ?_
  refine z_alenS _ (by assumption) rfl dJ1_charAt_3b067_2 ?_
  refine z_callS0 l_JLat_9 (C_JStr_checkIndex hk (by omega) ah sz) dJ1_charAt_3b067_3 rfl rfl (Nat.le_of_ble_eq_true rfl) ⟨⟨by decide, by decide⟩, by decide, by decide⟩ ?_
  refine z_aload_n dJ1_charAt_3b067_6 rfl ?_
  refine z_iload_n dJ1_charAt_3b067_7 rfl ?_
  refine z_baldS (by assumption) dJ1_charAt_3b067_8 (vp_in_nI hk (Nat.lt_of_le_of_lt h5.2 (by decide))) ?_
  refine z_sipush 255 dJ1_charAt_3b067_9 (by decide) ?_
  refine z_iand dJ1_charAt_3b067_12 ?_
  rw [nI_clamp (by omega)]
  refine z_i2c dJ1_charAt_3b067_13 ?_
  rw [wb_ch i hi k hk]
  refine z_ireturn dJ1_charAt_3b067_14 rfl (by have := wb_nar i hi k hk; exact this) ⟨Nat.le_refl _, Nat.le_refl _⟩ ?_
  exact ⟨rfl, rfl, rfl⟩
theorem C_JStr_charAt (hi : i < 7) (hk : k < wln i) (ah : zH) (sz : Nat) : zCe G m_JStr_charAt 4 [.ref (zsK G i), .int (nI k)] ah sz (some (.int (wby i k))) ah := by
  refine z_meth 0 ⟨p_JStr, rfl, Nat.le_of_ble_eq_true rfl⟩ rfl ?_
  refine z_aload_n dJ0_charAt_5068e_0 rfl ?_
  refine z_callVS hi rfl l_JStr_492 (C_JStr_isLatin1 hi ah _) dJ0_charAt_5068e_1 rfl rfl (Nat.le_of_ble_eq_true rfl) ⟨⟨by decide, by decide⟩, by decide, by decide⟩ (fun r1 h1 z1 q1 => ?_)
  obtain ⟨rfl, rfl, rfl⟩ := q1
  refine z_if_eq 16 dJ0_charAt_5068e_4 (by decide) (fun c4 => ?_) (fun c4 => ?_)
  · exact absurd c4 (by decide)
  · refine z_aload_n dJ0_charAt_5068e_7 rfl ?_
    refine z_getSv hi f_JStr_9 dJ0_charAt_5068e_8 ?_
    refine z_iload_n dJ0_charAt_5068e_11 rfl ?_
    refine z_callS1 l_JStr_495 (C_JLat_charAt hi hk _ _) dJ0_charAt_5068e_12 rfl rfl (Nat.le_of_ble_eq_true rfl) ⟨⟨by decide, by decide⟩, by decide, by decide⟩ ?_
    refine z_ireturn dJ0_charAt_5068e_15 rfl (by have := wb_nar i hi k hk; exact this) ⟨Nat.le_refl _, Nat.le_refl _⟩ ?_
    exact ⟨rfl, rfl, rfl⟩
end STR

def tReader (sh : Nat → Option zSh) (a : Nat) : Prop := sh a = some (.inl (4, [some (some (a + 1)), none, none, none])) ∧ sh (a + 1) = some (.inr (2, 100, fNo))
/-- the reader at a has this text, stands there, has this fault -/
def rd0 (S : zSt) (a L : Nat) (tx : Nat → Int32) (s : PC) : Prop := zi S a 1 = nI L ∧ (∀ i, i < L → za S (a + 1) i = tx i) ∧ zi S a 2 = nI s.1 ∧ zi S a 3 = s.2
theorem rd0.setP {S : zSt} {a L p : Nat} {tx : Nat → Int32} {s : PC} (h : rd0 S a L tx s) : rd0 (zsi S a 2 (nI p)) a L tx (p, s.2) :=
  ⟨(zup_ne (by omega)).trans h.1, h.2.1, zup_same, (zup_ne (by omega)).trans h.2.2.2⟩
theorem rd0.setF {S : zSt} {a L : Nat} {f : Int32} {tx : Nat → Int32} {s : PC} (h : rd0 S a L tx s) : rd0 (zsi S a 3 f) a L tx (s.1, f) :=
  ⟨(zup_ne (by omega)).trans h.1, h.2.1, (zup_ne (by omega)).trans h.2.2.1, zup_same⟩
abbrev inR (a : Nat) : Nat → Prop := fun b => b = a
section READER
variable {G : zG} {sh : Nat → Option zSh} {S : zSt} {a q L p i k : Nat} {tx : Nat → Int32} {s : PC} {f : Int32}
theorem C_Reader_isLetter {x : Int32} : zD G m_Reader_isLetter 1 sh [.int x] S (some (.int (zo (isLet x)))) S := by
  unfold isLet
  refine s_methD 0 ⟨p_Reader, rfl, Nat.le_of_ble_eq_true rfl⟩ rfl (fun sz => ?_)
  refine z_iload_n dX4_isLetter_0 rfl ?_
  refine z_bipush 97 dX4_isLetter_1 (by decide) ?_
  refine z_icmp_lt 16 dX4_isLetter_3 (by decide) (fun c3 => ?_) (fun c3 => ?_)
  · rw [decide_eq_false (fun z => absurd c3 (Int32.not_lt.mpr z.1))]
    refine z_iconst 0 dX4_isLetter_16 rfl ?_
    refine z_ireturn dX4_isLetter_17 rfl rfl ⟨Nat.le_refl _, Nat.le_refl _⟩ ?_
    exact ⟨rfl, rfl, rfl⟩
  · refine z_iload_n dX4_isLetter_6 rfl ?_
    refine z_bipush 122 dX4_isLetter_7 (by decide) ?_
    refine z_icmp_gt 16 dX4_isLetter_9 (by decide) (fun c9 => ?_) (fun c9 => ?_)
    · rw [decide_eq_false (fun z => absurd c9 (Int32.not_lt.mpr z.2))]
      refine z_iconst 0 dX4_isLetter_16 rfl ?_
      refine z_ireturn dX4_isLetter_17 rfl rfl ⟨Nat.le_refl _, Nat.le_refl _⟩ ?_
      exact ⟨rfl, rfl, rfl⟩
    · rw [decide_eq_true ⟨Int32.not_lt.mp c3, Int32.not_lt.mp c9⟩]
      refine z_iconst 1 dX4_isLetter_12 rfl ?_
      refine z_goto 17 dX4_isLetter_13 (by decide) ?_
      refine z_ireturn dX4_isLetter_17 rfl rfl ⟨Nat.le_refl _, Nat.le_refl _⟩ ?_
      exact ⟨rfl, rfl, rfl⟩
theorem C_Reader_isDigit {x : Int32} : zD G m_Reader_isDigit 1 sh [.int x] S (some (.int (zo (isDig x)))) S := by
  unfold isDig
  refine s_methD 0 ⟨p_Reader, rfl, Nat.le_of_ble_eq_true rfl⟩ rfl (fun sz => ?_)
  refine z_iload_n dX4_isDigit_0 rfl ?_
  refine z_bipush 48 dX4_isDigit_1 (by decide) ?_
  refine z_icmp_lt 16 dX4_isDigit_3 (by decide) (fun c3 => ?_) (fun c3 => ?_)
  · rw [decide_eq_false (fun z => absurd c3 (Int32.not_lt.mpr z.1))]
    refine z_iconst 0 dX4_isDigit_16 rfl ?_
    refine z_ireturn dX4_isDigit_17 rfl rfl ⟨Nat.le_refl _, Nat.le_refl _⟩ ?_
    exact ⟨rfl, rfl, rfl⟩
  · refine z_iload_n dX4_isDigit_6 rfl ?_
    refine z_bipush 57 dX4_isDigit_7 (by decide) ?_
    refine z_icmp_gt 16 dX4_isDigit_9 (by decide) (fun c9 => ?_) (fun c9 => ?_)
    · rw [decide_eq_false (fun z => absurd c9 (Int32.not_lt.mpr z.2))]
      refine z_iconst 0 dX4_isDigit_16 rfl ?_
      refine z_ireturn dX4_isDigit_17 rfl rfl ⟨Nat.le_refl _, Nat.le_refl _⟩ ?_
      exact ⟨rfl, rfl, rfl⟩
    · rw [decide_eq_true ⟨Int32.not_lt.mp c3, Int32.not_lt.mp c9⟩]
      refine z_iconst 1 dX4_isDigit_12 rfl ?_
      refine z_goto 17 dX4_isDigit_13 (by decide) ?_
      refine z_ireturn dX4_isDigit_17 rfl rfl ⟨Nat.le_refl _, Nat.le_refl _⟩ ?_
      exact ⟨rfl, rfl, rfl⟩
theorem C_Reader_signAt (hT : tReader sh a) (h : rd0 S a L tx s) (hL : L ≤ 100) (hp : p < 2 ^ 31) : zD G m_Reader_signAt 1 sh [.ref a, .int (nI p)] S (some (.int (sgn tx L p))) S := by
  obtain ⟨t1, t2⟩ := hT
  unfold sgn
  refine s_methD 0 ⟨p_Reader, rfl, Nat.le_of_ble_eq_true rfl⟩ rfl (fun sz => ?_)
  refine z_iload_n dX4_signAt_0 rfl ?_
  refine z_if_lt 21 dX4_signAt_1 (by decide) (fun c1 => ?_) (fun c1 => ?_)
  · exact absurd c1 (Int32.not_lt.mpr (nI_le (a := 0) (Nat.zero_le _) hp))
  · refine z_iload_n dX4_signAt_4 rfl ?_
    refine z_aload_n dX4_signAt_5 rfl ?_
    refine s_geti f_Reader_15 dX4_signAt_6 (by assumption) rfl ?_
    refine z_icmp_ge 21 dX4_signAt_9 (by decide) (fun c9 => ?_) (fun c9 => ?_)
    · rw [show zi S a 1 = nI L from h.1] at c9
      rw [if_neg (show ¬ p < L from Nat.not_lt.mpr ((nI_leI (by omega) hp).mp c9))]
      refine z_iconst (-1) dX4_signAt_21 rfl ?_
      refine z_ireturn dX4_signAt_22 rfl rfl ⟨Nat.le_refl _, Nat.le_refl _⟩ ?_
      first
        | exact ⟨rfl, rfl, rfl⟩
        | (rw [nI_clamp hp, h.2.1 p hpl]; exact ⟨rfl, rfl, rfl⟩)
    · rw [show zi S a 1 = nI L from h.1] at c9
      have hpl : p < L := Nat.lt_of_not_le (fun z => c9 ((nI_leI (by omega) hp).mpr z))
      rw [if_pos hpl]
      refine z_aload_n dX4_signAt_12 rfl ?_
      refine s_getr f_Reader_9 dX4_signAt_13 (by assumption) rfl ?_
      refine z_iload_n dX4_signAt_16 rfl ?_
      refine s_bald dX4_signAt_17 t2 (vp_in_nI (by omega) (by decide)) ?_
      refine z_goto 22 dX4_signAt_18 (by decide) ?_
      refine z_ireturn dX4_signAt_22 rfl rfl ⟨Nat.le_refl _, Nat.le_refl _⟩ ?_
      first
        | exact ⟨rfl, rfl, rfl⟩
        | (rw [nI_clamp hp, h.2.1 p hpl]; exact ⟨rfl, rfl, rfl⟩)
theorem C_Reader_blame {x : Int32} (hT : tReader sh a) (h : rd0 S a L tx s) : zN G m_Reader_blame 1 sh [.ref a, .int x] S none (fun S' => frS S (inR a) S' ∧ rd0 S' a L tx (s.1, bl s.2 x)) := by
  obtain ⟨t1, t2⟩ := hT
  refine s_meth 0 ⟨p_Reader, rfl, Nat.le_of_ble_eq_true rfl⟩ rfl (fun sz => ?_)
  refine z_aload_n dX4_blame_0 rfl ?_
  refine s_geti f_Reader_22 dX4_blame_1 (by assumption) rfl ?_
  refine z_iconst (-1) dX4_blame_4 rfl ?_
  refine z_icmp_ne 13 dX4_blame_5 (by decide) (fun c5 => ?_) (fun c5 => ?_)
  · rw [show zi S a 3 = s.2 from h.2.2.2] at c5
    refine z_return dX4_blame_13 rfl ⟨Nat.le_refl _, Nat.le_refl _⟩ ?_
    first
      | exact ⟨rfl, _, rfl, rfl, frS.rf, by rw [bl_f c5]; exact h⟩
      | (refine ⟨rfl, _, rfl, rfl, frS.seti rfl, ?_⟩
         rw [show bl s.2 x = x by rw [c5]; exact bl_m]
         exact h.setF)
  · rw [show zi S a 3 = s.2 from h.2.2.2] at c5
    refine z_aload_n dX4_blame_8 rfl ?_
    refine z_iload_n dX4_blame_9 rfl ?_
    refine s_puti f_Reader_22 dX4_blame_10 (by assumption) rfl ⟨rfl, rfl⟩ ?_
    refine z_return dX4_blame_13 rfl ⟨Nat.le_refl _, Nat.le_refl _⟩ ?_
    first
      | exact ⟨rfl, _, rfl, rfl, frS.rf, by rw [bl_f c5]; exact h⟩
      | (refine ⟨rfl, _, rfl, rfl, frS.seti rfl, ?_⟩
         rw [show bl s.2 x = x by rw [c5]; exact bl_m]
         exact h.setF)

theorem L_isWordAt {F : zFin} {sz : Nat} (hT : tReader sh a) (h : rd0 S a L tx s) (hL : L ≤ 100) (hp : p < 2 ^ 30) (hi : i < 7)
    (kt : isW tx L p i = true → ∀ z, zW G m_Reader_isWordAt (zRm (5) 0 0) F 0 0 54 z [.int 1] (zhp sh S) sz) (kf : isW tx L p i = false → ∀ z, zW G m_Reader_isWordAt (zRm (5) 0 0) F 0 0 54 z [.int 0] (zhp sh S) sz) (kg : isW tx L p i = false → ∀ z, zW G m_Reader_isWordAt (zRm (5) 0 0) F 0 0 26 z [.int 0] (zhp sh S) sz) :
    ∀ d k, wln i - k = d → k ≤ wln i → (∀ j, j < k → sgn tx L (p + j) = wby i j) → zW G m_Reader_isWordAt (zRm (5) 0 0) F 0 0 2 [some (.ref a), some (.int (nI p)), some (.ref (zsK G i)), some (.int (nI k))] [] (zhp sh S) sz := by
  have hw := wln_pos i hi
  intro d
  induction d with
  | zero =>
    intro k h1 h2 h3
    have e : k = wln i := by omega
    subst e
    have hall : allB (fun k => sgn tx L (p + k) == wby i k) (wln i) = true := allB_t (fun j hj => by rw [h3 j hj]; exact beq_self_eq_true _)
    refine z_iload_n dX4_isWordAt_2 rfl ?_
    refine z_aload_n dX4_isWordAt_3 rfl ?_
    refine z_callVS hi rfl l_Reader_112 (C_JStr_length hi _ _) dX4_isWordAt_4 rfl rfl (Nat.le_of_ble_eq_true rfl) ⟨⟨by decide, by decide⟩, by decide, by decide⟩ (fun r4 h4 z4 q4 => ?_)
    obtain ⟨rfl, rfl, rfl⟩ := q4
    refine z_icmp_ge 33 dX4_isWordAt_7 (by decide) (fun c7 => ?_) (fun c7 => ?_)
    · refine z_aload_n dX4_isWordAt_33 rfl ?_
      refine z_iload_n dX4_isWordAt_34 rfl ?_
      refine z_aload_n dX4_isWordAt_35 rfl ?_
      refine z_callVS hi rfl l_Reader_112 (C_JStr_length hi _ _) dX4_isWordAt_36 rfl rfl (Nat.le_of_ble_eq_true rfl) ⟨⟨by decide, by decide⟩, by decide, by decide⟩ (fun r36 h36 z36 q36 => ?_)
      obtain ⟨rfl, rfl, rfl⟩ := q36
      refine z_iadd dX4_isWordAt_39 ?_
      rw [nI_add]
      refine s_callV1 l_Reader_65 (C_Reader_signAt hT h hL (p := p + wln i) (by omega)) hT.1 dX4_isWordAt_40 rfl rfl (Nat.le_of_ble_eq_true rfl) ⟨⟨by decide, by decide⟩, by decide, by decide⟩ ?_
      refine s_callS1 l_Reader_105 (C_Reader_isLetter) dX4_isWordAt_43 rfl rfl (Nat.le_of_ble_eq_true rfl) ⟨⟨by decide, by decide⟩, by decide, by decide⟩ ?_
      refine z_if_ne 53 dX4_isWordAt_46 (by decide) (fun c46 => ?_) (fun c46 => ?_)
      · have e1 := zo_ne0.mp c46
        refine z_iconst 0 dX4_isWordAt_53 rfl ?_
        first
          | exact kt (by unfold isW; rw [hall, e1]; rfl) _
          | exact kf (by unfold isW; rw [hall, e1]; rfl) _
      · have e1 := zo_eq0.mp c46
        refine z_iconst 1 dX4_isWordAt_49 rfl ?_
        refine z_goto 54 dX4_isWordAt_50 (by decide) ?_
        first
          | exact kt (by unfold isW; rw [hall, e1]; rfl) _
          | exact kf (by unfold isW; rw [hall, e1]; rfl) _
    · exact absurd (nI_le (Nat.le_refl _) (by omega)) c7
  | succ d ih =>
    intro k h1 h2 h3
    refine z_iload_n dX4_isWordAt_2 rfl ?_
    refine z_aload_n dX4_isWordAt_3 rfl ?_
    refine z_callVS hi rfl l_Reader_112 (C_JStr_length hi _ _) dX4_isWordAt_4 rfl rfl (Nat.le_of_ble_eq_true rfl) ⟨⟨by decide, by decide⟩, by decide, by decide⟩ (fun r4 h4 z4 q4 => ?_)
    obtain ⟨rfl, rfl, rfl⟩ := q4
    refine z_icmp_ge 33 dX4_isWordAt_7 (by decide) (fun c7 => ?_) (fun c7 => ?_)
    · exact absurd c7 (nI_ge (by omega) (by omega))
    · refine z_aload_n dX4_isWordAt_10 rfl ?_
      refine z_iload_n dX4_isWordAt_11 rfl ?_
      refine z_iload_n dX4_isWordAt_12 rfl ?_
      refine z_iadd dX4_isWordAt_13 ?_
      rw [nI_add]
      refine s_callV1 l_Reader_65 (C_Reader_signAt hT h hL (p := p + k) (by omega)) hT.1 dX4_isWordAt_14 rfl rfl (Nat.le_of_ble_eq_true rfl) ⟨⟨by decide, by decide⟩, by decide, by decide⟩ ?_
      refine z_aload_n dX4_isWordAt_17 rfl ?_
      refine z_iload_n dX4_isWordAt_18 rfl ?_
      refine z_callVS hi rfl l_Reader_116 (C_JStr_charAt hi (show k < wln i by omega) _ _) dX4_isWordAt_19 rfl rfl (Nat.le_of_ble_eq_true rfl) ⟨⟨by decide, by decide⟩, by decide, by decide⟩ (fun r19 h19 z19 q19 => ?_)
      obtain ⟨rfl, rfl, rfl⟩ := q19
      refine z_icmp_eq 27 dX4_isWordAt_22 (by decide) (fun c22 => ?_) (fun c22 => ?_)
      · refine z_iinc (lv' := [_, _, _, _]) 1 dX4_isWordAt_27 rfl (by decide) rfl rfl ?_
        refine z_goto 2 dX4_isWordAt_30 (by decide) ?_
        rw [nI_1]
        exact ih (k + 1) (by omega) (by omega) (fun j hj => if e : j = k then by rw [e]; exact c22 else h3 j (by omega))
      · refine z_iconst 0 dX4_isWordAt_25 rfl ?_
        refine kg ?_ _
        unfold isW
        rw [allB_f (i := k) (by omega) (show (fun k => sgn tx L (p + k) == wby i k) k = false from beq_eq_false_iff_ne.mpr c22)]
        rfl
theorem C_Reader_isWordAt (hT : tReader sh a) (h : rd0 S a L tx s) (hL : L ≤ 100) (hp : p < 2 ^ 30) (hi : i < 7) : zD G m_Reader_isWordAt 5 sh [.ref a, .int (nI p), .ref (zsK G i)] S (some (.int (zo (isW tx L p i)))) S := by
  refine s_methD 1 ⟨p_Reader, rfl, Nat.le_of_ble_eq_true rfl⟩ rfl (fun sz => ?_)
  refine z_iconst 0 dX4_isWordAt_0 rfl ?_
  refine z_istore_n (lv' := [_, _, _, _]) dX4_isWordAt_1 (by decide) rfl ?_
  refine L_isWordAt hT h hL hp hi (fun e z => ?_) (fun e z => ?_) (fun e z => ?_) (wln i) 0 rfl (Nat.zero_le _) (fun j hj => absurd hj (Nat.not_lt_zero _))
  · refine z_ireturn dX4_isWordAt_54 rfl rfl ⟨Nat.le_refl _, Nat.le_refl _⟩ ?_
    rw [e]; exact ⟨rfl, rfl, rfl⟩
  · refine z_ireturn dX4_isWordAt_54 rfl rfl ⟨Nat.le_refl _, Nat.le_refl _⟩ ?_
    rw [e]; exact ⟨rfl, rfl, rfl⟩
  · refine z_ireturn dX4_isWordAt_26 rfl rfl ⟨Nat.le_refl _, Nat.le_refl _⟩ ?_
    rw [e]; exact ⟨rfl, rfl, rfl⟩
theorem C_Reader_passWord (hT : tReader sh a) (h : rd0 S a L tx s) (hi : i < 7) : zN G m_Reader_passWord 3 sh [.ref a, .ref (zsK G i)] S none (fun S' => frS S (inR a) S' ∧ rd0 S' a L tx (s.1 + wln i, s.2)) := by
  obtain ⟨t1, t2⟩ := hT
  refine s_meth 0 ⟨p_Reader, rfl, Nat.le_of_ble_eq_true rfl⟩ rfl (fun sz => ?_)
  refine z_aload_n dX4_passWord_0 rfl ?_
  refine z_dup dX4_passWord_1 rfl ?_
  refine s_geti f_Reader_19 dX4_passWord_2 (by assumption) rfl ?_
  refine z_aload_n dX4_passWord_5 rfl ?_
  refine z_callVS hi rfl l_Reader_112 (C_JStr_length hi _ _) dX4_passWord_6 rfl rfl (Nat.le_of_ble_eq_true rfl) ⟨⟨by decide, by decide⟩, by decide, by decide⟩ (fun r6 h6 z6 q6 => ?_)
  obtain ⟨rfl, rfl, rfl⟩ := q6
  refine z_iadd dX4_passWord_9 ?_
  rw [show zi S a 2 = nI s.1 from h.2.2.1, nI_add]
  refine s_puti f_Reader_19 dX4_passWord_10 (by assumption) rfl ⟨rfl, rfl⟩ ?_
  refine z_return dX4_passWord_13 rfl ⟨Nat.le_refl _, Nat.le_refl _⟩ ?_
  exact ⟨rfl, _, rfl, rfl, frS.seti rfl, h.setP⟩
theorem C_Reader_pass {c : Int32} (hT : tReader sh a) (h : rd0 S a L tx s) (hL : L ≤ 100) (hs : s.1 < 2 ^ 31) : zN G m_Reader_pass 2 sh [.ref a, .int c] S none (fun S' => frS S (inR a) S' ∧ rd0 S' a L tx (cPass tx L c s)) := by
  obtain ⟨t1, t2⟩ := id hT
  unfold cPass
  refine s_meth 0 ⟨p_Reader, rfl, Nat.le_of_ble_eq_true rfl⟩ rfl (fun sz => ?_)
  refine z_aload_n dX4_pass_0 rfl ?_
  refine z_aload_n dX4_pass_1 rfl ?_
  refine s_geti f_Reader_19 dX4_pass_2 (by assumption) rfl ?_
  rw [show zi S a 2 = nI s.1 from h.2.2.1]
  refine s_callV1 l_Reader_65 (C_Reader_signAt hT h hL hs) (by assumption) dX4_pass_5 rfl rfl (Nat.le_of_ble_eq_true rfl) ⟨⟨by decide, by decide⟩, by decide, by decide⟩ ?_
  refine z_iload_n dX4_pass_8 rfl ?_
  refine z_icmp_ne 25 dX4_pass_9 (by decide) (fun c9 => ?_) (fun c9 => ?_)
  · rw [if_neg c9]
    refine z_aload_n dX4_pass_25 rfl ?_
    refine z_aload_n dX4_pass_26 rfl ?_
    refine s_geti f_Reader_19 dX4_pass_27 (by assumption) rfl ?_
    rw [show zi S a 2 = nI s.1 from h.2.2.1]
    refine n_callV0 l_Reader_69 (C_Reader_blame hT h) (by assumption) dX4_pass_30 rfl rfl (Nat.le_of_ble_eq_true rfl) ⟨⟨by decide, by decide⟩, by decide, by decide⟩ (fun S30 q30 => ?_)
    refine z_return dX4_pass_33 rfl ⟨Nat.le_refl _, Nat.le_refl _⟩ ?_
    first
      | exact ⟨rfl, _, rfl, rfl, frS.seti rfl, h.setP⟩
      | exact ⟨rfl, _, rfl, rfl, q30.1, q30.2⟩
  · rw [if_pos c9]
    refine z_aload_n dX4_pass_12 rfl ?_
    refine z_dup dX4_pass_13 rfl ?_
    refine s_geti f_Reader_19 dX4_pass_14 (by assumption) rfl ?_
    refine z_iconst 1 dX4_pass_17 rfl ?_
    refine z_iadd dX4_pass_18 ?_
    rw [show zi S a 2 = nI s.1 from h.2.2.1, nI_1]
    refine s_puti f_Reader_19 dX4_pass_19 (by assumption) rfl ⟨rfl, rfl⟩ ?_
    refine z_goto 33 dX4_pass_22 (by decide) ?_
    refine z_return dX4_pass_33 rfl ⟨Nat.le_refl _, Nat.le_refl _⟩ ?_
    first
      | exact ⟨rfl, _, rfl, rfl, frS.seti rfl, h.setP⟩
      | exact ⟨rfl, _, rfl, rfl, q30.1, q30.2⟩
theorem C_Reader_passJoin (hT : tReader sh a) (h : rd0 S a L tx s) (hL : L ≤ 100) (hs : s.1 < 2 ^ 30) (hi : i < 7) : zN G m_Reader_passJoin 4 sh [.ref a, .ref (zsK G i)] S none (fun S' => frS S (inR a) S' ∧ rd0 S' a L tx (cPJ tx L i s)) := by
  have hw := wln_pos i hi
  have hk : (cPass tx L 32 s).1 ≤ s.1 + 1 := by
    unfold cPass
    split
    · exact Nat.le_refl _
    · exact Nat.le_succ _
  refine s_meth 0 ⟨p_Reader, rfl, Nat.le_of_ble_eq_true rfl⟩ rfl (fun sz => ?_)
  refine z_aload_n dX4_passJoin_0 rfl ?_
  refine z_bipush 32 dX4_passJoin_1 (by decide) ?_
  refine n_callV0 l_Reader_75 (C_Reader_pass hT h hL (by omega)) hT.1 dX4_passJoin_3 rfl rfl (Nat.le_of_ble_eq_true rfl) ⟨⟨by decide, by decide⟩, by decide, by decide⟩ (fun S3 q3 => ?_)
  refine z_aload_n dX4_passJoin_6 rfl ?_
  refine z_aload_n dX4_passJoin_7 rfl ?_
  refine n_callV0 l_Reader_72 (C_Reader_passWord hT q3.2 hi) hT.1 dX4_passJoin_8 rfl rfl (Nat.le_of_ble_eq_true rfl) ⟨⟨by decide, by decide⟩, by decide, by decide⟩ (fun S8 q8 => ?_)
  refine z_aload_n dX4_passJoin_11 rfl ?_
  refine z_bipush 32 dX4_passJoin_12 (by decide) ?_
  refine n_callV0 l_Reader_75 (C_Reader_pass hT q8.2 hL (by show _ + _ < _; omega)) hT.1 dX4_passJoin_14 rfl rfl (Nat.le_of_ble_eq_true rfl) ⟨⟨by decide, by decide⟩, by decide, by decide⟩ (fun S14 q14 => ?_)
  refine z_return dX4_passJoin_17 rfl ⟨Nat.le_refl _, Nat.le_refl _⟩ ?_
  exact ⟨rfl, _, rfl, rfl, (q3.1.trans q8.1).trans q14.1, q14.2⟩
theorem C_Reader_passColumn (hT : tReader sh a) (h : rd0 S a L tx s) (hL : L ≤ 100) (hs : s.1 < 2 ^ 30) : zN G m_Reader_passColumn 2 sh [.ref a] S (some (.int (cCol tx L s).1)) (fun S' => frS S (inR a) S' ∧ rd0 S' a L tx (cCol tx L s).2) := by
  obtain ⟨t1, t2⟩ := id hT
  have e0 : zi S a 2 = nI s.1 := h.2.2.1
  unfold cCol
  refine s_meth 1 ⟨p_Reader, rfl, Nat.le_of_ble_eq_true rfl⟩ rfl (fun sz => ?_)
  refine z_aload_n dX4_passColumn_0 rfl ?_
  refine z_aload_n dX4_passColumn_1 rfl ?_
  refine s_geti f_Reader_19 dX4_passColumn_2 (by assumption) rfl ?_
  rw [e0]
  refine s_callV1 l_Reader_65 (C_Reader_signAt hT h hL (show s.1 < 2 ^ 31 by omega)) (by assumption) dX4_passColumn_5 rfl rfl (Nat.le_of_ble_eq_true rfl) ⟨⟨by decide, by decide⟩, by decide, by decide⟩ ?_
  refine z_istore_n (lv' := [_, _]) dX4_passColumn_8 (by decide) rfl ?_
  refine z_iload_n dX4_passColumn_9 rfl ?_
  refine z_bipush 97 dX4_passColumn_10 (by decide) ?_
  refine z_icmp_lt 37 dX4_passColumn_12 (by decide) (fun c12 => ?_) (fun c12 => ?_)
  · rw [if_neg (fun z => absurd c12 (Int32.not_lt.mpr z.1.1))]
    refine z_aload_n dX4_passColumn_37 rfl ?_
    refine z_aload_n dX4_passColumn_38 rfl ?_
    refine s_geti f_Reader_19 dX4_passColumn_39 (by assumption) rfl ?_
    rw [e0]
    refine n_callV0 l_Reader_69 (C_Reader_blame hT h) (by assumption) dX4_passColumn_42 rfl rfl (Nat.le_of_ble_eq_true rfl) ⟨⟨by decide, by decide⟩, by decide, by decide⟩ (fun S42 q42 => ?_)
    refine z_iconst (-1) dX4_passColumn_45 rfl ?_
    refine z_ireturn dX4_passColumn_46 rfl rfl ⟨Nat.le_refl _, Nat.le_refl _⟩ ?_
    exact ⟨rfl, _, rfl, rfl, q42.1, q42.2⟩
  · refine z_iload_n dX4_passColumn_15 rfl ?_
    refine z_bipush 101 dX4_passColumn_16 (by decide) ?_
    refine z_icmp_ge 37 dX4_passColumn_18 (by decide) (fun c18 => ?_) (fun c18 => ?_)
    · rw [if_neg (fun z => absurd z.1.2 (Int32.not_lt.mpr c18))]
      refine z_aload_n dX4_passColumn_37 rfl ?_
      refine z_aload_n dX4_passColumn_38 rfl ?_
      refine s_geti f_Reader_19 dX4_passColumn_39 (by assumption) rfl ?_
      rw [e0]
      refine n_callV0 l_Reader_69 (C_Reader_blame hT h) (by assumption) dX4_passColumn_42 rfl rfl (Nat.le_of_ble_eq_true rfl) ⟨⟨by decide, by decide⟩, by decide, by decide⟩ (fun S42 q42 => ?_)
      refine z_iconst (-1) dX4_passColumn_45 rfl ?_
      refine z_ireturn dX4_passColumn_46 rfl rfl ⟨Nat.le_refl _, Nat.le_refl _⟩ ?_
      exact ⟨rfl, _, rfl, rfl, q42.1, q42.2⟩
    · refine z_aload_n dX4_passColumn_21 rfl ?_
      refine z_aload_n dX4_passColumn_22 rfl ?_
      refine s_geti f_Reader_19 dX4_passColumn_23 (by assumption) rfl ?_
      refine z_iconst 1 dX4_passColumn_26 rfl ?_
      refine z_iadd dX4_passColumn_27 ?_
      rw [e0, nI_1]
      refine s_callV1 l_Reader_65 (C_Reader_signAt hT h hL (show s.1 + 1 < 2 ^ 31 by omega)) (by assumption) dX4_passColumn_28 rfl rfl (Nat.le_of_ble_eq_true rfl) ⟨⟨by decide, by decide⟩, by decide, by decide⟩ ?_
      refine s_callS1 l_Reader_105 (C_Reader_isLetter) dX4_passColumn_31 rfl rfl (Nat.le_of_ble_eq_true rfl) ⟨⟨by decide, by decide⟩, by decide, by decide⟩ ?_
      refine z_if_eq 47 dX4_passColumn_34 (by decide) (fun c34 => ?_) (fun c34 => ?_)
      · rw [if_pos ⟨⟨Int32.not_lt.mp c12, Int32.not_le.mp c18⟩, zo_eq0.mp c34⟩]
        refine z_aload_n dX4_passColumn_47 rfl ?_
        refine z_dup dX4_passColumn_48 rfl ?_
        refine s_geti f_Reader_19 dX4_passColumn_49 (by assumption) rfl ?_
        refine z_iconst 1 dX4_passColumn_52 rfl ?_
        refine z_iadd dX4_passColumn_53 ?_
        rw [e0, nI_1]
        refine s_puti f_Reader_19 dX4_passColumn_54 (by assumption) rfl ⟨rfl, rfl⟩ ?_
        refine z_iload_n dX4_passColumn_57 rfl ?_
        refine z_bipush 97 dX4_passColumn_58 (by decide) ?_
        refine z_isub dX4_passColumn_60 ?_
        refine z_ireturn dX4_passColumn_61 rfl rfl ⟨Nat.le_refl _, Nat.le_refl _⟩ ?_
        exact ⟨rfl, _, rfl, rfl, frS.seti rfl, h.setP⟩
      · rw [if_neg (fun z => by rw [z.2] at c34; exact c34 rfl)]
        refine z_aload_n dX4_passColumn_37 rfl ?_
        refine z_aload_n dX4_passColumn_38 rfl ?_
        refine s_geti f_Reader_19 dX4_passColumn_39 (by assumption) rfl ?_
        rw [e0]
        refine n_callV0 l_Reader_69 (C_Reader_blame hT h) (by assumption) dX4_passColumn_42 rfl rfl (Nat.le_of_ble_eq_true rfl) ⟨⟨by decide, by decide⟩, by decide, by decide⟩ (fun S42 q42 => ?_)
        refine z_iconst (-1) dX4_passColumn_45 rfl ?_
        refine z_ireturn dX4_passColumn_46 rfl rfl ⟨Nat.le_refl _, Nat.le_refl _⟩ ?_
        exact ⟨rfl, _, rfl, rfl, q42.1, q42.2⟩
theorem C_Reader_passValue (hT : tReader sh a) (h : rd0 S a L tx s) (hL : L ≤ 100) (hs : s.1 < 2 ^ 30) : zN G m_Reader_passValue 2 sh [.ref a] S (some (.int (cVal tx L s).1)) (fun S' => frS S (inR a) S' ∧ rd0 S' a L tx (cVal tx L s).2) := by
  obtain ⟨t1, t2⟩ := id hT
  have e0 : zi S a 2 = nI s.1 := h.2.2.1
  unfold cVal
  refine s_meth 1 ⟨p_Reader, rfl, Nat.le_of_ble_eq_true rfl⟩ rfl (fun sz => ?_)
  refine z_aload_n dX4_passValue_0 rfl ?_
  refine z_aload_n dX4_passValue_1 rfl ?_
  refine s_geti f_Reader_19 dX4_passValue_2 (by assumption) rfl ?_
  rw [e0]
  refine s_callV1 l_Reader_65 (C_Reader_signAt hT h hL (show s.1 < 2 ^ 31 by omega)) (by assumption) dX4_passValue_5 rfl rfl (Nat.le_of_ble_eq_true rfl) ⟨⟨by decide, by decide⟩, by decide, by decide⟩ ?_
  refine s_callS1 l_Reader_109 (C_Reader_isDigit) dX4_passValue_8 rfl rfl (Nat.le_of_ble_eq_true rfl) ⟨⟨by decide, by decide⟩, by decide, by decide⟩ ?_
  refine z_if_ne 24 dX4_passValue_11 (by decide) (fun c11 => ?_) (fun c11 => ?_)
  · rw [if_neg (by rw [zo_ne0.mp c11]; decide)]
    refine z_aload_n dX4_passValue_24 rfl ?_
    refine z_aload_n dX4_passValue_25 rfl ?_
    refine s_geti f_Reader_19 dX4_passValue_26 (by assumption) rfl ?_
    rw [e0]
    refine s_callV1 l_Reader_65 (C_Reader_signAt hT h hL (show s.1 < 2 ^ 31 by omega)) (by assumption) dX4_passValue_29 rfl rfl (Nat.le_of_ble_eq_true rfl) ⟨⟨by decide, by decide⟩, by decide, by decide⟩ ?_
    refine z_bipush 48 dX4_passValue_32 (by decide) ?_
    refine z_isub dX4_passValue_34 ?_
    refine z_istore_n (lv' := [_, _]) dX4_passValue_35 (by decide) rfl ?_
    refine z_aload_n dX4_passValue_36 rfl ?_
    refine z_dup dX4_passValue_37 rfl ?_
    refine s_geti f_Reader_19 dX4_passValue_38 (by assumption) rfl ?_
    refine z_iconst 1 dX4_passValue_41 rfl ?_
    refine z_iadd dX4_passValue_42 ?_
    rw [e0, nI_1]
    refine s_puti f_Reader_19 dX4_passValue_43 (by assumption) rfl ⟨rfl, rfl⟩ ?_
    refine z_gen (fun S46 e46 => ?_)
    have h46 : rd0 S46 a L tx (s.1 + 1, s.2) := by rw [e46]; exact h.setP
    have f46 : frS S (inR a) S46 := by rw [e46]; exact frS.seti rfl
    clear e46
    have e1 : zi S46 a 2 = nI (s.1 + 1) := h46.2.2.1
    refine z_aload_n dX4_passValue_46 rfl ?_
    refine z_aload_n dX4_passValue_47 rfl ?_
    refine s_geti f_Reader_19 dX4_passValue_48 (by assumption) rfl ?_
    rw [e1]
    refine s_callV1 l_Reader_65 (C_Reader_signAt hT h46 hL (show s.1 + 1 < 2 ^ 31 by omega)) (by assumption) dX4_passValue_51 rfl rfl (Nat.le_of_ble_eq_true rfl) ⟨⟨by decide, by decide⟩, by decide, by decide⟩ ?_
    refine s_callS1 l_Reader_109 (C_Reader_isDigit) dX4_passValue_54 rfl rfl (Nat.le_of_ble_eq_true rfl) ⟨⟨by decide, by decide⟩, by decide, by decide⟩ ?_
    refine z_if_eq 101 dX4_passValue_57 (by decide) (fun c57 => ?_) (fun c57 => ?_)
    · rw [if_pos (zo_eq0.mp c57)]
      refine z_iload_n dX4_passValue_101 rfl ?_
      refine z_ireturn dX4_passValue_102 rfl rfl ⟨Nat.le_refl _, Nat.le_refl _⟩ ?_
      first
        | exact ⟨rfl, _, rfl, rfl, f46, h46⟩
        | exact ⟨rfl, _, rfl, rfl, f46.trans (frS.seti rfl), h46.setP⟩
        | exact ⟨rfl, _, rfl, rfl, (f46.trans q88.1).trans (frS.seti rfl), q88.2.setP⟩
    · rw [if_neg (by rw [zo_ne0.mp c57]; decide)]
      refine z_iload_n dX4_passValue_60 rfl ?_
      refine z_bipush 10 dX4_passValue_61 (by decide) ?_
      refine z_imul dX4_passValue_63 ?_
      refine z_aload_n dX4_passValue_64 rfl ?_
      refine z_aload_n dX4_passValue_65 rfl ?_
      refine s_geti f_Reader_19 dX4_passValue_66 (by assumption) rfl ?_
      rw [e1]
      refine s_callV1 l_Reader_65 (C_Reader_signAt hT h46 hL (show s.1 + 1 < 2 ^ 31 by omega)) (by assumption) dX4_passValue_69 rfl rfl (Nat.le_of_ble_eq_true rfl) ⟨⟨by decide, by decide⟩, by decide, by decide⟩ ?_
      refine z_iadd dX4_passValue_72 ?_
      refine z_bipush 48 dX4_passValue_73 (by decide) ?_
      refine z_isub dX4_passValue_75 ?_
      refine z_istore_n (lv' := [_, _]) dX4_passValue_76 (by decide) rfl ?_
      refine z_iload_n dX4_passValue_77 rfl ?_
      refine z_bipush 16 dX4_passValue_78 (by decide) ?_
      refine z_icmp_lt 91 dX4_passValue_80 (by decide) (fun c80 => ?_) (fun c80 => ?_)
      · rw [if_pos c80]
        try have e1 := q88.2.2.2.1
        refine z_aload_n dX4_passValue_91 rfl ?_
        refine z_dup dX4_passValue_92 rfl ?_
        refine s_geti f_Reader_19 dX4_passValue_93 (by assumption) rfl ?_
        refine z_iconst 1 dX4_passValue_96 rfl ?_
        refine z_iadd dX4_passValue_97 ?_
        rw [e1, nI_1]
        refine s_puti f_Reader_19 dX4_passValue_98 (by assumption) rfl ⟨rfl, rfl⟩ ?_
        refine z_iload_n dX4_passValue_101 rfl ?_
        refine z_ireturn dX4_passValue_102 rfl rfl ⟨Nat.le_refl _, Nat.le_refl _⟩ ?_
        first
          | exact ⟨rfl, _, rfl, rfl, f46, h46⟩
          | exact ⟨rfl, _, rfl, rfl, f46.trans (frS.seti rfl), h46.setP⟩
          | exact ⟨rfl, _, rfl, rfl, (f46.trans q88.1).trans (frS.seti rfl), q88.2.setP⟩
      · rw [if_neg c80]
        refine z_aload_n dX4_passValue_83 rfl ?_
        refine z_aload_n dX4_passValue_84 rfl ?_
        refine s_geti f_Reader_19 dX4_passValue_85 (by assumption) rfl ?_
        rw [e1]
        refine n_callV0 l_Reader_69 (C_Reader_blame hT h46) (by assumption) dX4_passValue_88 rfl rfl (Nat.le_of_ble_eq_true rfl) ⟨⟨by decide, by decide⟩, by decide, by decide⟩ (fun S88 q88 => ?_)
        try have e1 := q88.2.2.2.1
        refine z_aload_n dX4_passValue_91 rfl ?_
        refine z_dup dX4_passValue_92 rfl ?_
        refine s_geti f_Reader_19 dX4_passValue_93 (by assumption) rfl ?_
        refine z_iconst 1 dX4_passValue_96 rfl ?_
        refine z_iadd dX4_passValue_97 ?_
        rw [e1, nI_1]
        refine s_puti f_Reader_19 dX4_passValue_98 (by assumption) rfl ⟨rfl, rfl⟩ ?_
        refine z_iload_n dX4_passValue_101 rfl ?_
        refine z_ireturn dX4_passValue_102 rfl rfl ⟨Nat.le_refl _, Nat.le_refl _⟩ ?_
        first
          | exact ⟨rfl, _, rfl, rfl, f46, h46⟩
          | exact ⟨rfl, _, rfl, rfl, f46.trans (frS.seti rfl), h46.setP⟩
          | exact ⟨rfl, _, rfl, rfl, (f46.trans q88.1).trans (frS.seti rfl), q88.2.setP⟩
  · rw [if_pos (zo_eq0.mp c11)]
    refine z_aload_n dX4_passValue_14 rfl ?_
    refine z_aload_n dX4_passValue_15 rfl ?_
    refine s_geti f_Reader_19 dX4_passValue_16 (by assumption) rfl ?_
    rw [e0]
    refine n_callV0 l_Reader_69 (C_Reader_blame hT h) (by assumption) dX4_passValue_19 rfl rfl (Nat.le_of_ble_eq_true rfl) ⟨⟨by decide, by decide⟩, by decide, by decide⟩ (fun S19 q19 => ?_)
    refine z_iconst 0 dX4_passValue_22 rfl ?_
    refine z_ireturn dX4_passValue_23 rfl rfl ⟨Nat.le_refl _, Nat.le_refl _⟩ ?_
    exact ⟨rfl, _, rfl, rfl, q19.1, q19.2⟩
theorem C_Reader_blameWhat (hT : tReader sh a) (h : rd0 S a L tx s) (hL : L ≤ 100) (hs : s.1 < 2 ^ 30) : zN G m_Reader_blameWhatFollows 2 sh [.ref a] S none (fun S' => frS S (inR a) S' ∧ rd0 S' a L tx (cBlf tx L s)) := by
  obtain ⟨t1, t2⟩ := id hT
  have e0 : zi S a 2 = nI s.1 := h.2.2.1
  unfold cBlf
  refine s_meth 0 ⟨p_Reader, rfl, Nat.le_of_ble_eq_true rfl⟩ rfl (fun sz => ?_)
  refine z_aload_n dX4_blameWhatFollows_0 rfl ?_
  refine z_aload_n dX4_blameWhatFollows_1 rfl ?_
  refine z_aload_n dX4_blameWhatFollows_2 rfl ?_
  refine s_geti f_Reader_19 dX4_blameWhatFollows_3 (by assumption) rfl ?_
  rw [e0]
  refine s_callV1 l_Reader_65 (C_Reader_signAt hT h hL (show s.1 < 2 ^ 31 by omega)) (by assumption) dX4_blameWhatFollows_6 rfl rfl (Nat.le_of_ble_eq_true rfl) ⟨⟨by decide, by decide⟩, by decide, by decide⟩ ?_
  refine z_bipush 32 dX4_blameWhatFollows_9 (by decide) ?_
  refine z_icmp_ne 23 dX4_blameWhatFollows_11 (by decide) (fun c11 => ?_) (fun c11 => ?_)
  · rw [if_neg c11]
    refine z_aload_n dX4_blameWhatFollows_23 rfl ?_
    refine s_geti f_Reader_19 dX4_blameWhatFollows_24 (by assumption) rfl ?_
    first
      | rw [e0]
      | skip
    refine n_callV0 l_Reader_69 (C_Reader_blame hT h) (by assumption) dX4_blameWhatFollows_27 rfl rfl (Nat.le_of_ble_eq_true rfl) ⟨⟨by decide, by decide⟩, by decide, by decide⟩ (fun S27 q27 => ?_)
    refine z_return dX4_blameWhatFollows_30 rfl ⟨Nat.le_refl _, Nat.le_refl _⟩ ?_
    exact ⟨rfl, _, rfl, rfl, q27.1, q27.2⟩
  · rw [if_pos c11]
    refine z_aload_n dX4_blameWhatFollows_14 rfl ?_
    refine s_geti f_Reader_19 dX4_blameWhatFollows_15 (by assumption) rfl ?_
    rw [e0]
    refine z_iconst 1 dX4_blameWhatFollows_18 rfl ?_
    refine z_iadd dX4_blameWhatFollows_19 ?_
    rw [nI_1]
    refine z_goto 27 dX4_blameWhatFollows_20 (by decide) ?_
    first
      | rw [e0]
      | skip
    refine n_callV0 l_Reader_69 (C_Reader_blame hT h) (by assumption) dX4_blameWhatFollows_27 rfl rfl (Nat.le_of_ble_eq_true rfl) ⟨⟨by decide, by decide⟩, by decide, by decide⟩ (fun S27 q27 => ?_)
    refine z_return dX4_blameWhatFollows_30 rfl ⟨Nat.le_refl _, Nat.le_refl _⟩ ?_
    exact ⟨rfl, _, rfl, rfl, q27.1, q27.2⟩
theorem C_Reader_passClosing (hT : tReader sh a) (h : rd0 S a L tx s) (hL : L ≤ 100) (hs : s.1 < 2 ^ 30) : zN G m_Reader_passClosing 3 sh [.ref a] S none (fun S' => frS S (inR a) S' ∧ rd0 S' a L tx (cClose tx L s)) := by
  obtain ⟨t1, t2⟩ := id hT
  have e0 : zi S a 2 = nI s.1 := h.2.2.1
  unfold cClose
  refine s_meth 0 ⟨p_Reader, rfl, Nat.le_of_ble_eq_true rfl⟩ rfl (fun sz => ?_)
  refine z_aload_n dX4_passClosing_0 rfl ?_
  refine z_aload_n dX4_passClosing_1 rfl ?_
  refine s_geti f_Reader_19 dX4_passClosing_2 (by assumption) rfl ?_
  rw [e0]
  refine s_callV1 l_Reader_65 (C_Reader_signAt hT h hL (show s.1 < 2 ^ 31 by omega)) (by assumption) dX4_passClosing_5 rfl rfl (Nat.le_of_ble_eq_true rfl) ⟨⟨by decide, by decide⟩, by decide, by decide⟩ ?_
  refine z_bipush 41 dX4_passClosing_8 (by decide) ?_
  refine z_icmp_ne 26 dX4_passClosing_10 (by decide) (fun c10 => ?_) (fun c10 => ?_)
  · rw [if_neg c10]
    refine z_aload_n dX4_passClosing_26 rfl ?_
    refine n_callV0 l_Reader_34 (C_Reader_blameWhat hT h hL hs) (by assumption) dX4_passClosing_27 rfl rfl (Nat.le_of_ble_eq_true rfl) ⟨⟨by decide, by decide⟩, by decide, by decide⟩ (fun S27 q27 => ?_)
    refine z_return dX4_passClosing_30 rfl ⟨Nat.le_refl _, Nat.le_refl _⟩ ?_
    first
      | exact ⟨rfl, _, rfl, rfl, frS.seti rfl, h.setP⟩
      | exact ⟨rfl, _, rfl, rfl, q27.1, q27.2⟩
  · rw [if_pos c10]
    refine z_aload_n dX4_passClosing_13 rfl ?_
    refine z_dup dX4_passClosing_14 rfl ?_
    refine s_geti f_Reader_19 dX4_passClosing_15 (by assumption) rfl ?_
    refine z_iconst 1 dX4_passClosing_18 rfl ?_
    refine z_iadd dX4_passClosing_19 ?_
    rw [e0, nI_1]
    refine s_puti f_Reader_19 dX4_passClosing_20 (by assumption) rfl ⟨rfl, rfl⟩ ?_
    refine z_goto 30 dX4_passClosing_23 (by decide) ?_
    refine z_return dX4_passClosing_30 rfl ⟨Nat.le_refl _, Nat.le_refl _⟩ ?_
    first
      | exact ⟨rfl, _, rfl, rfl, frS.seti rfl, h.setP⟩
      | exact ⟨rfl, _, rfl, rfl, q27.1, q27.2⟩
theorem C_Reader_isJoinedBy (hT : tReader sh a) (h : rd0 S a L tx s) (hL : L ≤ 100) (hs : s.1 < 2 ^ 29) (hi : i < 7) : zD G m_Reader_isJoinedBy 6 sh [.ref a, .ref (zsK G i)] S (some (.int (zo (isJ tx L i s)))) S := by
  obtain ⟨t1, t2⟩ := id hT
  have e0 : zi S a 2 = nI s.1 := h.2.2.1
  have e3 : zi S a 3 = s.2 := h.2.2.2
  unfold isJ
  refine s_methD 0 ⟨p_Reader, rfl, Nat.le_of_ble_eq_true rfl⟩ rfl (fun sz => ?_)
  refine z_aload_n dX4_isJoinedBy_0 rfl ?_
  refine s_geti f_Reader_22 dX4_isJoinedBy_1 (by assumption) rfl ?_
  refine z_iconst (-1) dX4_isJoinedBy_4 rfl ?_
  rw [e3]
  refine z_icmp_ne 39 dX4_isJoinedBy_5 (by decide) (fun c5 => ?_) (fun c5 => ?_)
  · rw [decide_eq_false c5]
    refine z_iconst 0 dX4_isJoinedBy_39 rfl ?_
    refine z_ireturn dX4_isJoinedBy_40 rfl rfl ⟨Nat.le_refl _, Nat.le_refl _⟩ ?_
    exact ⟨rfl, rfl, rfl⟩
  · rw [decide_eq_true c5]
    refine z_aload_n dX4_isJoinedBy_8 rfl ?_
    refine z_aload_n dX4_isJoinedBy_9 rfl ?_
    refine s_geti f_Reader_19 dX4_isJoinedBy_10 (by assumption) rfl ?_
    rw [e0]
    refine s_callV1 l_Reader_65 (C_Reader_signAt hT h hL (show s.1 < 2 ^ 31 by omega)) (by assumption) dX4_isJoinedBy_13 rfl rfl (Nat.le_of_ble_eq_true rfl) ⟨⟨by decide, by decide⟩, by decide, by decide⟩ ?_
    refine z_bipush 32 dX4_isJoinedBy_16 (by decide) ?_
    refine z_icmp_ne 39 dX4_isJoinedBy_18 (by decide) (fun c18 => ?_) (fun c18 => ?_)
    · rw [decide_eq_false c18]
      refine z_iconst 0 dX4_isJoinedBy_39 rfl ?_
      refine z_ireturn dX4_isJoinedBy_40 rfl rfl ⟨Nat.le_refl _, Nat.le_refl _⟩ ?_
      exact ⟨rfl, rfl, rfl⟩
    · rw [decide_eq_true c18]
      refine z_aload_n dX4_isJoinedBy_21 rfl ?_
      refine z_aload_n dX4_isJoinedBy_22 rfl ?_
      refine s_geti f_Reader_19 dX4_isJoinedBy_23 (by assumption) rfl ?_
      refine z_iconst 1 dX4_isJoinedBy_26 rfl ?_
      refine z_iadd dX4_isJoinedBy_27 ?_
      refine z_aload_n dX4_isJoinedBy_28 rfl ?_
      rw [e0, nI_1]
      refine s_callV1 l_Reader_61 (C_Reader_isWordAt hT h hL (p := s.1 + 1) (by omega) hi) (by assumption) dX4_isJoinedBy_29 rfl rfl (Nat.le_of_ble_eq_true rfl) ⟨⟨by decide, by decide⟩, by decide, by decide⟩ ?_
      refine z_if_eq 39 dX4_isJoinedBy_32 (by decide) (fun c32 => ?_) (fun c32 => ?_)
      · rw [zo_eq0.mp c32]
        refine z_iconst 0 dX4_isJoinedBy_39 rfl ?_
        refine z_ireturn dX4_isJoinedBy_40 rfl rfl ⟨Nat.le_refl _, Nat.le_refl _⟩ ?_
        exact ⟨rfl, rfl, rfl⟩
      · rw [zo_ne0.mp c32]
        refine z_iconst 1 dX4_isJoinedBy_35 rfl ?_
        refine z_goto 40 dX4_isJoinedBy_36 (by decide) ?_
        refine z_ireturn dX4_isJoinedBy_40 rfl rfl ⟨Nat.le_refl _, Nat.le_refl _⟩ ?_
        exact ⟨rfl, rfl, rfl⟩
end READER

/-! what a digit, a column, a value is where there is no fault -/
theorem dig_of {x : Int32} (h : isDig x = true) : ∃ d, d < 10 ∧ x = nI (48 + d) := by
  obtain ⟨h1, h2⟩ := of_decide_eq_true h
  obtain ⟨j, hj, rfl⟩ := nI_of (x := x) (Int32.not_lt.mpr (Int32.le_trans (show (0 : Int32) ≤ 48 by decide) h1))
  have a1 := (nI_leI (a := 48) (by decide) hj).mp h1
  have a2 := (nI_leI (b := 57) hj (by decide)).mp h2
  exact ⟨j - 48, by omega, by congr 1; omega⟩
theorem dig_v : ∀ d, d < 10 → nI (48 + d) - 48 = nI d := by decide +kernel
theorem dig_w : ∀ d, d < 10 → ∀ e, e < 10 → (nI (48 + d) - 48) * 10 + nI (48 + e) - 48 = nI (10 * d + e) := by decide +kernel
theorem cVal_ok {tx : Nat → Int32} {L : Nat} {s : PC} (hs : s.1 < 2 ^ 30) (h : (cVal tx L s).2.2 = -1) : s.2 = -1 ∧ (∃ v, v < 16 ∧ (cVal tx L s).1 = nI v) ∧ s.1 < (cVal tx L s).2.1 := by
  unfold cVal at h ⊢
  by_cases h0 : isDig (sgn tx L s.1) = false
  · rw [if_pos h0] at h
    exact absurd h (bl_n (by omega))
  · rw [if_neg h0] at h ⊢
    obtain ⟨d, hd, ed⟩ := dig_of (eq_true_of_ne_false h0)
    by_cases h1 : isDig (sgn tx L (s.1 + 1)) = false
    · rw [if_pos h1] at h ⊢
      exact ⟨h, ⟨d, by omega, by show sgn tx L s.1 - 48 = _; rw [ed, dig_v d hd]⟩, Nat.lt_succ_self _⟩
    · rw [if_neg h1] at h ⊢
      obtain ⟨e, he, ee⟩ := dig_of (eq_true_of_ne_false h1)
      have hv : (sgn tx L s.1 - 48) * 10 + sgn tx L (s.1 + 1) - 48 = nI (10 * d + e) := by rw [ed, ee, dig_w d hd e he]
      rw [hv] at h ⊢
      by_cases h2 : nI (10 * d + e) < 16
      · have h : (if nI (10 * d + e) < 16 then s.2 else bl s.2 (nI (s.1 + 1))) = -1 := h
        rw [if_pos h2] at h
        exact ⟨h, ⟨10 * d + e, (nI_ltI (b := 16) (by omega) (by decide)).mp h2, rfl⟩, by show s.1 < s.1 + 2; omega⟩
      · have h : (if nI (10 * d + e) < 16 then s.2 else bl s.2 (nI (s.1 + 1))) = -1 := h
        rw [if_neg h2] at h
        exact absurd h (bl_n (by omega))
theorem col_v : ∀ d, d < 4 → nI (97 + d) - 97 = nI d := by decide +kernel
theorem cCol_ok {tx : Nat → Int32} {L : Nat} {s : PC} (hs : s.1 < 2 ^ 30) (h : (cCol tx L s).2.2 = -1) : s.2 = -1 ∧ (∃ v, v < 4 ∧ (cCol tx L s).1 = nI v) ∧ s.1 < (cCol tx L s).2.1 := by
  unfold cCol at h ⊢
  by_cases h0 : (97 ≤ sgn tx L s.1 ∧ sgn tx L s.1 < 101) ∧ isLet (sgn tx L (s.1 + 1)) = false
  · rw [if_pos h0] at h ⊢
    obtain ⟨⟨h1, h2⟩, -⟩ := h0
    obtain ⟨j, hj, ej⟩ := nI_of (x := sgn tx L s.1) (Int32.not_lt.mpr (Int32.le_trans (show (0 : Int32) ≤ 97 by decide) h1))
    rw [ej] at h1 h2
    have a1 := (nI_leI (a := 97) (by decide) hj).mp h1
    have a2 := (nI_ltI (b := 101) hj (by decide)).mp h2
    refine ⟨h, ⟨j - 97, by omega, ?_⟩, Nat.lt_succ_self _⟩
    show sgn tx L s.1 - 97 = _
    rw [ej, ← col_v (j - 97) (by omega), show 97 + (j - 97) = j by omega]
  · rw [if_neg h0] at h
    exact absurd h (bl_n (by omega))
theorem cSort_ok {tx : Nat → Int32} {L : Nat} {s : PC} (hs : s.1 < 2 ^ 30) (h : (cSort tx L s).2.2 = -1) : s.2 = -1 ∧ s.1 < (cSort tx L s).2.1 ∧ ((cSort tx L s).1 = 1 ∨ (cSort tx L s).1 = 2 ∨ (cSort tx L s).1 = 3) := by
  unfold cSort at h ⊢
  by_cases h0 : isW tx L s.1 4 = true
  · rw [if_pos h0] at h ⊢
    exact ⟨h, by show s.1 < s.1 + 2; omega, Or.inl rfl⟩
  · rw [if_neg h0] at h ⊢
    by_cases h1 : isW tx L s.1 5 = true
    · rw [if_pos h1] at h ⊢
      exact ⟨h, by show s.1 < s.1 + 5; omega, Or.inr (Or.inl rfl)⟩
    · rw [if_neg h1] at h ⊢
      by_cases h2 : isW tx L s.1 6 = true
      · rw [if_pos h2] at h ⊢
        exact ⟨h, by show s.1 < s.1 + 2; omega, Or.inr (Or.inr rfl)⟩
      · rw [if_neg h2] at h
        exact absurd h (bl_n (by omega))
/-! one step more -/
def qAdd (S : zSt) (q c : Nat) (s x y z : Int32) : zSt := if c < 50 then qPush S q c s x y z else S
theorem qAdd_fr {S : zSt} {q c : Nat} {s x y z : Int32} : frS S (fun b => q ≤ b ∧ b < q + 5) (qAdd S q c s x y z) := by
  unfold qAdd qPush
  split
  · exact ((((frS.seta (P := fun b => q ≤ b ∧ b < q + 5) ⟨by omega, by omega⟩).trans (frS.seta ⟨by omega, by omega⟩)).trans (frS.seta ⟨by omega, by omega⟩)).trans (frS.seta ⟨by omega, by omega⟩)).trans (frS.seti ⟨by omega, by omega⟩)
  · exact frS.rf
def qM (x : Ndx) (s1 x1 y1 z1 : Int32) : Prop := bsx s1 = nI x.1 ∧ (x.1 ≤ 3 → bsx x1 = nI x.2.1 ∧ bsx y1 = nI (lstI (fun _ => x) 0) ∧ bsx z1 = nI (gstI (fun _ => x) 0) - 1)
theorem rQuery_push {S : zSt} {q c : Nat} {nd : Nd} {x : Ndx} {s1 x1 y1 z1 : Int32} (h : rQuery S q c nd) (hx : qM x s1 x1 y1 z1) : rQuery (qPush S q c s1 x1 y1 z1) q (c + 1) (ndPush nd c x) := by
  unfold qPush
  refine ⟨zi_si, fun i hi => ?_⟩
  by_cases e : i = c
  · subst e
    have en : ndPush nd i x i = x := if_pos rfl
    have e1 : nS (ndPush nd i x) i = x.1 := congrArg (fun y => y.1) en
    have e2 : nC (ndPush nd i x) i = x.2.1 := congrArg (fun y => y.2.1) en
    have e3 : lstI (ndPush nd i x) i = lstI (fun _ => x) 0 := congrArg (fun y => lstI (fun _ => y) 0) en
    have e4 : gstI (ndPush nd i x) i = gstI (fun _ => x) 0 := congrArg (fun y => gstI (fun _ => y) 0) en
    rw [e1, e2, e3, e4]
    refine ⟨?_, fun h3 => ⟨?_, ?_, ?_⟩⟩
    · exact ((zup_ne (by omega)).trans ((zup_ne (by omega)).trans ((zup_ne (by omega)).trans zup_same))).trans hx.1
    · exact ((zup_ne (by omega)).trans ((zup_ne (by omega)).trans zup_same)).trans (hx.2 h3).1
    · exact ((zup_ne (by omega)).trans zup_same).trans (hx.2 h3).2.1
    · exact zup_same.trans (hx.2 h3).2.2
  · have en : ndPush nd c x i = nd i := if_neg e
    have e1 : nS (ndPush nd c x) i = nS nd i := congrArg (fun y => y.1) en
    have e2 : nC (ndPush nd c x) i = nC nd i := congrArg (fun y => y.2.1) en
    have e3 : lstI (ndPush nd c x) i = lstI nd i := congrArg (fun y => lstI (fun _ => y) 0) en
    have e4 : gstI (ndPush nd c x) i = gstI nd i := congrArg (fun y => gstI (fun _ => y) 0) en
    rw [e1, e2, e3, e4]
    obtain ⟨g1, g2⟩ := h.2 i (by omega)
    refine ⟨?_, fun h3 => ⟨?_, ?_, ?_⟩⟩
    · exact ((zup_ne (by omega)).trans ((zup_ne (by omega)).trans ((zup_ne (by omega)).trans (zup_ne (by omega))))).trans g1
    · exact ((zup_ne (by omega)).trans ((zup_ne (by omega)).trans ((zup_ne (by omega)).trans (zup_ne (by omega))))).trans (g2 h3).1
    · exact ((zup_ne (by omega)).trans ((zup_ne (by omega)).trans ((zup_ne (by omega)).trans (zup_ne (by omega))))).trans (g2 h3).2.1
    · exact ((zup_ne (by omega)).trans ((zup_ne (by omega)).trans ((zup_ne (by omega)).trans (zup_ne (by omega))))).trans (g2 h3).2.2
/-- the reader at a and the query at q are as s says -/
def rP (S : zSt) (a q L : Nat) (tx : Nat → Int32) (s : PS) : Prop := rd0 S a L tx s.c ∧ s.p ≤ L ∧ ∃ c, c ≤ 50 ∧ zi S q 4 = nI c ∧ (s.f = -1 → s.n ≤ 50 → c = s.n ∧ rQuery S q s.n s.nd)
theorem rd0.fr {S S' : zSt} {a L : Nat} {tx : Nat → Int32} {s : PC} {P : Nat → Prop} (h : rd0 S a L tx s) (hf : frS S P S') (h1 : ¬ P a) (h2 : ¬ P (a + 1)) : rd0 S' a L tx s :=
  ⟨(congrFun (hf a h1).1 1).trans h.1, fun i hi => (congrFun (hf _ h2).2.2.1 i).trans (h.2.1 i hi), (congrFun (hf a h1).1 2).trans h.2.2.1, (congrFun (hf a h1).1 3).trans h.2.2.2⟩
theorem rP_push {S : zSt} {a q L c n : Nat} {tx : Nat → Int32} {t : PC} {nd : Nd} {x : Ndx} {s1 x1 y1 z1 : Int32} (hd : a + 2 ≤ q ∨ q + 5 ≤ a) (h0 : rd0 S a L tx t) (hl : t.1 ≤ L) (hc : c ≤ 50) (he : zi S q 4 = nI c) (hq : t.2 = -1 → n ≤ 50 → c = n ∧ rQuery S q n nd) (hx : t.2 = -1 → qM x s1 x1 y1 z1) : rP (qAdd S q c s1 x1 y1 z1) a q L tx (t.1, t.2, n + 1, ndPush nd n x) := by
  refine ⟨h0.fr qAdd_fr (by omega) (by omega), hl, ?_⟩
  unfold qAdd
  by_cases h : c < 50
  · rw [if_pos h]
    refine ⟨c + 1, h, zi_si, fun h1 h2 => ?_⟩
    obtain ⟨rfl, g⟩ := hq h1 (by show n ≤ 50; have : n + 1 ≤ 50 := h2; omega)
    exact ⟨rfl, rQuery_push g (hx h1)⟩
  · rw [if_neg h]
    refine ⟨c, hc, he, fun h1 h2 => ?_⟩
    have h2 : n + 1 ≤ 50 := h2
    obtain ⟨rfl, g⟩ := hq h1 (by omega)
    omega
theorem rP_mv {S S' : zSt} {a q L : Nat} {tx : Nat → Int32} {s : PS} {t : PC} (hd : a + 2 ≤ q ∨ q + 5 ≤ a) (h : rP S a q L tx s) (hf : frS S (inR a) S') (h0 : rd0 S' a L tx t) (hl : t.1 ≤ L) (ht : t.2 = -1 → s.f = -1) : rP S' a q L tx (psC t s) := by
  obtain ⟨-, -, c, h1, h2, h3⟩ := h
  have fq : ∀ b, q ≤ b → b < q + 5 → ¬ inR a b := fun b b1 b2 e => by have e : b = a := e; omega
  exact ⟨h0, hl, c, h1, (congrFun (hf q (fq q (by omega) (by omega))).1 4).trans h2, fun g1 g2 => ⟨(h3 (ht g1) g2).1, (h3 (ht g1) g2).2.fr hf fq⟩⟩
section READ2
variable {G : zG} {sh : Nat → Option zSh} {S : zSt} {a q L p i k c : Nat} {tx : Nat → Int32} {s : PS} {f : Int32}
theorem C_Query_leafA {s x y z : Int32} (hT : tQuery sh q) (h0 : zi S q 4 = nI c) (hc : c ≤ 50) : zD G m_Query_appendLeaf 1 sh [.ref q, .int s, .int x, .int y, .int z] S none (qAdd S q c s x y z) := by
  unfold qAdd
  by_cases h : c < 50
  · rw [if_pos h]; exact C_Query_leaf hT h0 h
  · rw [if_neg h]
    have e : c = 50 := by omega
    subst e
    exact C_Query_leafF hT h0
theorem C_Query_joinA {s : Int32} (hT : tQuery sh q) (h0 : zi S q 4 = nI c) (hc : c ≤ 50) : zD G m_Query_appendJoin 2 sh [.ref q, .int s] S none (qAdd S q c s 0 0 0) := by
  unfold qAdd
  by_cases h : c < 50
  · rw [if_pos h]; exact C_Query_join hT h0 h
  · rw [if_neg h]
    have e : c = 50 := by omega
    subst e
    exact C_Query_joinF hT h0
end READ2

abbrev inRQ (a q : Nat) : Nat → Prop := fun b => b = a ∨ (q ≤ b ∧ b < q + 5)
theorem bsx_nI : ∀ k, k < 100 → bsx (nI k) = nI k := by decide +kernel
theorem bsx_nI1 : ∀ k, k < 100 → bsx (nI k - 1) = nI k - 1 := by decide +kernel
theorem iN_nI {k : Nat} (h : k < 2 ^ 31) : iN (nI k) = k := nI_clamp h
theorem nI_s1 : ∀ k, k < 100 → nI k = nI (k + 1) - 1 := by decide +kernel
theorem qM_is {c v : Nat} (hc : c < 4) (hv : v < 16) : qM (1, c, v, v, 0, 0) 1 (nI c) (nI v) (nI v) := by
  refine ⟨(by decide : bsx 1 = nI 1), fun _ => ⟨bsx_nI c (by omega), bsx_nI v (by omega), ?_⟩⟩
  rw [bsx_nI v (by omega)]
  exact nI_s1 v (by omega)
theorem qM_below {c v : Nat} (hc : c < 4) (hv : v < 16) : qM (2, c, v, v, 0, 0) 2 (nI c) 0 (nI v - 1) :=
  ⟨(by decide : bsx 2 = nI 2), fun _ => ⟨bsx_nI c (by omega), (by decide : bsx 0 = nI 0), bsx_nI1 v (by omega)⟩⟩
theorem qM_in {c v w : Nat} (hc : c < 4) (hv : v < 16) (hw : w < 16) : qM (3, c, v, w, 0, 0) 3 (nI c) (nI v) (nI w) := by
  refine ⟨(by decide : bsx 3 = nI 3), fun _ => ⟨bsx_nI c (by omega), bsx_nI v (by omega), ?_⟩⟩
  rw [bsx_nI w (by omega)]
  exact nI_s1 w (by omega)
section RD2
variable {tx : Nat → Int32} {L : Nat}
theorem zq1_k (s : PC) : keepC L s (zq1 tx L s).2 := cCol_k s
theorem zq2_k (s : PC) : keepC L s (zq2 tx L s).2 := ((zq1_k s).trans (cPass_k (by decide) _)).trans (cSort_k _)
theorem zq3_k (s : PC) : keepC L s (zq3 tx L s).2 := ((zq2_k s).trans (cPass_k (by decide) _)).trans (cVal_k _)
theorem zq4_k (s : PC) : keepC L s (zq4 tx L s).2 := (((zq3_k s).trans (cPass_k (by decide) _)).trans (cPass_k (by decide) _)).trans (cVal_k _)
/-- no fault behind: none before -/
theorem keepC.back {s t : PC} (h : keepC L s t) (e : t.2 = -1) : s.2 = -1 := by
  by_cases q : s.2 = -1
  · exact q
  · rw [h.2 q] at e; exact e
theorem zq1_ok {s : PC} (hs : s.1 ≤ L) (hL : L ≤ 100) (h : (zq1 tx L s).2.2 = -1) : ∃ c, c < 4 ∧ (zq1 tx L s).1 = nI c := (cCol_ok (by omega) h).2.1
theorem zq2_ok1 {s : PC} (h : (zq2 tx L s).2.2 = -1) : (zq1 tx L s).2.2 = -1 := ((cPass_k (by decide) (zq1 tx L s).2).trans (cSort_k (cPass tx L 32 (zq1 tx L s).2))).back h
theorem zq3_ok2 {s : PC} (h : (zq3 tx L s).2.2 = -1) : (zq2 tx L s).2.2 = -1 := ((cPass_k (by decide) (zq2 tx L s).2).trans (cVal_k (cPass tx L 32 (zq2 tx L s).2))).back h
theorem zq4_ok3 {s : PC} (h : (zq4 tx L s).2.2 = -1) : (zq3 tx L s).2.2 = -1 := (((cPass_k (by decide) (zq3 tx L s).2).trans (cPass_k (by decide) _)).trans (cVal_k (cPass tx L 46 (cPass tx L 46 (zq3 tx L s).2)))).back h
theorem zq3_ok {s : PC} (hs : s.1 ≤ L) (hL : L ≤ 100) (h : (zq3 tx L s).2.2 = -1) : ∃ v, v < 16 ∧ (zq3 tx L s).1 = nI v := by
  have hk := (((zq2_k (tx := tx) s).trans (cPass_k (by decide) _) : keepC L s (cPass tx L 32 (zq2 tx L s).2))).1 hs
  exact (cVal_ok (by omega) h).2.1
theorem zq4_ok {s : PC} (hs : s.1 ≤ L) (hL : L ≤ 100) (h : (zq4 tx L s).2.2 = -1) : ∃ v, v < 16 ∧ (zq4 tx L s).1 = nI v := by
  have hk := ((((zq3_k (tx := tx) s).trans (cPass_k (by decide) _)).trans (cPass_k (by decide) _) : keepC L s (cPass tx L 46 (cPass tx L 46 (zq3 tx L s).2)))).1 hs
  exact (cVal_ok (by omega) h).2.1
end RD2
section READ3
variable {G : zG} {sh : Nat → Option zSh} {S : zSt} {a q L p i k c : Nat} {tx : Nat → Int32} {s : PS} {f : Int32}
theorem C_Reader_readQuestion (hT : tReader sh a) (hQ : tQuery sh q) (hd : a + 2 ≤ q ∨ q + 5 ≤ a) (hL : L ≤ 100) (h : rP S a q L tx s) : zN G m_Reader_readQuestion 7 sh [.ref a, .ref q] S none (fun S' => frS S (inRQ a q) S' ∧ rP S' a q L tx (pQ tx L s)) := by
  have hr := h
  obtain ⟨h0, hl, c, hc, he, hq⟩ := h
  have hl : s.c.1 ≤ L := hl
  have t1 := hT.1
  have k1 := (zq1_k (tx := tx) s.c).1 hl
  have k1b := ((zq1_k (tx := tx) s.c).trans (cPass_k (tx := tx) (c := 32) (by decide) _)).1 hl
  have k2 := (zq2_k (tx := tx) s.c).1 hl
  have k2b := ((zq2_k (tx := tx) s.c).trans (cPass_k (tx := tx) (c := 32) (by decide) _)).1 hl
  have k3 := (zq3_k (tx := tx) s.c).1 hl
  have k3b := ((zq3_k (tx := tx) s.c).trans (cPass_k (tx := tx) (c := 46) (by decide) _)).1 hl
  have k3c := (((zq3_k (tx := tx) s.c).trans (cPass_k (tx := tx) (c := 46) (by decide) _)).trans (cPass_k (tx := tx) (c := 46) (by decide) _)).1 hl
  have k4 := (zq4_k (tx := tx) s.c).1 hl
  have wk : ∀ {S1 S2}, frS S1 (inR a) S2 → frS S1 (inRQ a q) S2 := fun f => f.weaken (fun b e => Or.inl e)
  have wq : ∀ {S1 c x y z w}, frS S1 (inRQ a q) (qAdd S1 q c x y z w) := qAdd_fr.weaken (fun b e => Or.inr e)
  have nq : ∀ b, q ≤ b → b < q + 5 → ¬ inR a b := fun b b1 b2 e => by have e : b = a := e; omega
  have qq : ∀ {S2 : zSt} {t : PC}, frS S (inR a) S2 → (t.2 = -1 → s.f = -1) → t.2 = -1 → s.n ≤ 50 → c = s.n ∧ rQuery S2 q s.n s.nd := fun f g g1 g2 => ⟨(hq (g g1) g2).1, (hq (g g1) g2).2.fr f nq⟩
  have eq4 : ∀ {S2 : zSt}, frS S (inR a) S2 → zi S2 q 4 = nI c := fun f => (congrFun (f q (nq q (by omega) (by omega))).1 4).trans he
  have b3 := (zq3_k (tx := tx) (L := L) s.c).back
  have b4 := (zq4_k (tx := tx) (L := L) s.c).back
  refine s_meth 4 ⟨p_Reader, rfl, Nat.le_of_ble_eq_true rfl⟩ rfl (fun sz => ?_)
  have k65 : ∀ (S8 : zSt) (x4 x5 : Bool) (i k : Nat), frS S (inR a) S8 → rd0 S8 a L tx (cPass tx L 32 (zq1 tx L s.c).2) → ((x4 = true ∧ i = 4 ∧ k = 1) ∨ (x4 = false ∧ x5 = true ∧ i = 5 ∧ k = 2) ∨ (x4 = false ∧ x5 = false ∧ i = 6 ∧ k = 3)) → zq2 tx L s.c = (nI k, (cPass tx L 32 (zq1 tx L s.c).2).1 + wln i, (cPass tx L 32 (zq1 tx L s.c).2).2) → zW G m_Reader_readQuestion (zRm 7 0 0) (zFm G (zP sh sz (fun r' S' => r' = none ∧ frS S (inRQ a q) S' ∧ rP S' a q L tx (pQ tx L s))) 0 0) 0 0 65 [some (.ref a), some (.ref q), some (.int (zq1 tx L s.c).1), some (.int (zo x4)), some (.int (zo x5)), none] [] (zhp sh S8) sz := by
    intro S8 x4 x5 i k f8 g8 hik hz
    have z22 : (zq2 tx L s.c).2 = ((cPass tx L 32 (zq1 tx L s.c).2).1 + wln i, (cPass tx L 32 (zq1 tx L s.c).2).2) := congrArg (fun y => y.2) hz
    rcases hik with ⟨rfl, rfl, rfl⟩ | ⟨rfl, rfl, rfl, rfl⟩ | ⟨rfl, rfl, rfl, rfl⟩
    · have z21 : (zq2 tx L s.c).1 = 1 := (congrArg (fun y => y.1) hz).trans (by decide : nI 1 = 1)
      have ep : pQ tx L s = psN (1, iN (zq1 tx L s.c).1, iN (zq3 tx L s.c).1, iN (zq3 tx L s.c).1, 0, 0) (psC (zq3 tx L s.c).2 s) := by unfold pQ; rw [if_pos z21]
      refine z_aload_n dX4_readQuestion_65 rfl ?_
      refine z_iload_n dX4_readQuestion_66 rfl ?_
      refine z_if_eq 75 dX4_readQuestion_67 (by decide) (fun c67 => ?_) (fun c67 => ?_)
      · exact absurd c67 (by decide)
      · refine z_ldcS 4 (by decide) rfl rfl dX4_readQuestion_70 ?_
        refine z_goto 87 dX4_readQuestion_72 (by decide) ?_
        refine n_callV0 l_Reader_72 (C_Reader_passWord hT g8 (i := 4) (by decide)) hT.1 dX4_readQuestion_87 rfl rfl (Nat.le_of_ble_eq_true rfl) ⟨⟨by decide, by decide⟩, by decide, by decide⟩ (fun S87 q87 => ?_)
        have g87 : rd0 S87 a L tx (zq2 tx L s.c).2 := by rw [z22]; exact q87.2
        refine z_aload_n dX4_readQuestion_90 rfl ?_
        refine z_bipush 32 dX4_readQuestion_91 (by decide) ?_
        refine n_callV0 l_Reader_75 (C_Reader_pass hT g87 hL (by omega)) hT.1 dX4_readQuestion_93 rfl rfl (Nat.le_of_ble_eq_true rfl) ⟨⟨by decide, by decide⟩, by decide, by decide⟩ (fun S93 q93 => ?_)
        refine z_aload_n dX4_readQuestion_96 rfl ?_
        refine n_callV1 l_Reader_102 (C_Reader_passValue hT q93.2 hL (by omega)) hT.1 dX4_readQuestion_97 rfl rfl (Nat.le_of_ble_eq_true rfl) ⟨⟨by decide, by decide⟩, by decide, by decide⟩ (fun S97 q97 => ?_)
        have g97 : rd0 S97 a L tx (zq3 tx L s.c).2 := q97.2
        have f97 : frS S (inR a) S97 := ((f8.trans q87.1).trans q93.1).trans q97.1
        refine z_istore (lv' := [_, _, _, _, _, _]) dX4_readQuestion_100 (by decide) rfl ?_
        refine z_iload_n dX4_readQuestion_102 rfl ?_
        refine z_if_eq 119 dX4_readQuestion_103 (by decide) (fun c103 => ?_) (fun c103 => ?_)
        · exact absurd c103 (by decide)
        · refine z_aload_n dX4_readQuestion_106 rfl ?_
          refine z_iconst 1 dX4_readQuestion_107 rfl ?_
          refine z_iload_n dX4_readQuestion_108 rfl ?_
          refine z_iload dX4_readQuestion_109 rfl ?_
          refine z_iload dX4_readQuestion_111 rfl ?_
          refine s_callV0 l_Reader_84 (C_Query_leafA hQ (eq4 f97) hc) hQ.1 dX4_readQuestion_113 rfl rfl (Nat.le_of_ble_eq_true rfl) ⟨⟨by decide, by decide⟩, by decide, by decide⟩ ?_
          refine z_goto 162 dX4_readQuestion_116 (by decide) ?_
          refine z_return dX4_readQuestion_162 rfl ⟨Nat.le_refl _, Nat.le_refl _⟩ ?_
          refine ⟨rfl, _, rfl, rfl, (wk f97).trans wq, ?_⟩
          rw [ep]
          refine rP_push hd g97 k3.2 hc (eq4 f97) (qq f97 b3) (fun e => ?_)
          obtain ⟨c1, e1, e2⟩ := zq1_ok (tx := tx) hl hL (zq2_ok1 (zq3_ok2 e))
          obtain ⟨v1, e3, e4⟩ := zq3_ok (tx := tx) hl hL e
          show qM (1, iN (zq1 tx L s.c).1, iN (zq3 tx L s.c).1, iN (zq3 tx L s.c).1, 0, 0) 1 (zq1 tx L s.c).1 (zq3 tx L s.c).1 (zq3 tx L s.c).1
          rw [e2, e4, iN_nI (by omega), iN_nI (by omega)]
          exact qM_is e1 e3
    · have z21 : (zq2 tx L s.c).1 = 2 := (congrArg (fun y => y.1) hz).trans (by decide : nI 2 = 2)
      have ep : pQ tx L s = psN (2, iN (zq1 tx L s.c).1, iN (zq3 tx L s.c).1, iN (zq3 tx L s.c).1, 0, 0) (psC (zq3 tx L s.c).2 s) := by unfold pQ; rw [if_neg (by rw [z21]; decide), if_pos z21]
      refine z_aload_n dX4_readQuestion_65 rfl ?_
      refine z_iload_n dX4_readQuestion_66 rfl ?_
      refine z_if_eq 75 dX4_readQuestion_67 (by decide) (fun c67 => ?_) (fun c67 => ?_)
      · refine z_iload dX4_readQuestion_75 rfl ?_
        refine z_if_eq 85 dX4_readQuestion_77 (by decide) (fun c77 => ?_) (fun c77 => ?_)
        · exact absurd c77 (by decide)
        · refine z_ldcS 5 (by decide) rfl rfl dX4_readQuestion_80 ?_
          refine z_goto 87 dX4_readQuestion_82 (by decide) ?_
          refine n_callV0 l_Reader_72 (C_Reader_passWord hT g8 (i := 5) (by decide)) hT.1 dX4_readQuestion_87 rfl rfl (Nat.le_of_ble_eq_true rfl) ⟨⟨by decide, by decide⟩, by decide, by decide⟩ (fun S87 q87 => ?_)
          have g87 : rd0 S87 a L tx (zq2 tx L s.c).2 := by rw [z22]; exact q87.2
          refine z_aload_n dX4_readQuestion_90 rfl ?_
          refine z_bipush 32 dX4_readQuestion_91 (by decide) ?_
          refine n_callV0 l_Reader_75 (C_Reader_pass hT g87 hL (by omega)) hT.1 dX4_readQuestion_93 rfl rfl (Nat.le_of_ble_eq_true rfl) ⟨⟨by decide, by decide⟩, by decide, by decide⟩ (fun S93 q93 => ?_)
          refine z_aload_n dX4_readQuestion_96 rfl ?_
          refine n_callV1 l_Reader_102 (C_Reader_passValue hT q93.2 hL (by omega)) hT.1 dX4_readQuestion_97 rfl rfl (Nat.le_of_ble_eq_true rfl) ⟨⟨by decide, by decide⟩, by decide, by decide⟩ (fun S97 q97 => ?_)
          have g97 : rd0 S97 a L tx (zq3 tx L s.c).2 := q97.2
          have f97 : frS S (inR a) S97 := ((f8.trans q87.1).trans q93.1).trans q97.1
          refine z_istore (lv' := [_, _, _, _, _, _]) dX4_readQuestion_100 (by decide) rfl ?_
          refine z_iload_n dX4_readQuestion_102 rfl ?_
          refine z_if_eq 119 dX4_readQuestion_103 (by decide) (fun c103 => ?_) (fun c103 => ?_)
          · refine z_iload dX4_readQuestion_119 rfl ?_
            refine z_if_eq 138 dX4_readQuestion_121 (by decide) (fun c121 => ?_) (fun c121 => ?_)
            · exact absurd c121 (by decide)
            · refine z_aload_n dX4_readQuestion_124 rfl ?_
              refine z_iconst 2 dX4_readQuestion_125 rfl ?_
              refine z_iload_n dX4_readQuestion_126 rfl ?_
              refine z_iconst 0 dX4_readQuestion_127 rfl ?_
              refine z_iload dX4_readQuestion_128 rfl ?_
              refine z_iconst 1 dX4_readQuestion_130 rfl ?_
              refine z_isub dX4_readQuestion_131 ?_
              refine s_callV0 l_Reader_84 (C_Query_leafA hQ (eq4 f97) hc) hQ.1 dX4_readQuestion_132 rfl rfl (Nat.le_of_ble_eq_true rfl) ⟨⟨by decide, by decide⟩, by decide, by decide⟩ ?_
              refine z_goto 162 dX4_readQuestion_135 (by decide) ?_
              refine z_return dX4_readQuestion_162 rfl ⟨Nat.le_refl _, Nat.le_refl _⟩ ?_
              refine ⟨rfl, _, rfl, rfl, (wk f97).trans wq, ?_⟩
              rw [ep]
              refine rP_push hd g97 k3.2 hc (eq4 f97) (qq f97 b3) (fun e => ?_)
              obtain ⟨c1, e1, e2⟩ := zq1_ok (tx := tx) hl hL (zq2_ok1 (zq3_ok2 e))
              obtain ⟨v1, e3, e4⟩ := zq3_ok (tx := tx) hl hL e
              show qM (2, iN (zq1 tx L s.c).1, iN (zq3 tx L s.c).1, iN (zq3 tx L s.c).1, 0, 0) 2 (zq1 tx L s.c).1 0 ((zq3 tx L s.c).1 - 1)
              rw [e2, e4, iN_nI (by omega), iN_nI (by omega)]
              exact qM_below e1 e3
          · exact absurd (by decide) c103
      · exact absurd (by decide) c67
    · have z21 : (zq2 tx L s.c).1 = 3 := (congrArg (fun y => y.1) hz).trans (by decide : nI 3 = 3)
      have ep : pQ tx L s = psN (3, iN (zq1 tx L s.c).1, iN (zq3 tx L s.c).1, iN (zq4 tx L s.c).1, 0, 0) (psC (zq4 tx L s.c).2 s) := by unfold pQ; rw [if_neg (by rw [z21]; decide), if_neg (by rw [z21]; decide), if_pos z21]
      refine z_aload_n dX4_readQuestion_65 rfl ?_
      refine z_iload_n dX4_readQuestion_66 rfl ?_
      refine z_if_eq 75 dX4_readQuestion_67 (by decide) (fun c67 => ?_) (fun c67 => ?_)
      · refine z_iload dX4_readQuestion_75 rfl ?_
        refine z_if_eq 85 dX4_readQuestion_77 (by decide) (fun c77 => ?_) (fun c77 => ?_)
        · refine z_ldcS 6 (by decide) rfl rfl dX4_readQuestion_85 ?_
          refine n_callV0 l_Reader_72 (C_Reader_passWord hT g8 (i := 6) (by decide)) hT.1 dX4_readQuestion_87 rfl rfl (Nat.le_of_ble_eq_true rfl) ⟨⟨by decide, by decide⟩, by decide, by decide⟩ (fun S87 q87 => ?_)
          have g87 : rd0 S87 a L tx (zq2 tx L s.c).2 := by rw [z22]; exact q87.2
          refine z_aload_n dX4_readQuestion_90 rfl ?_
          refine z_bipush 32 dX4_readQuestion_91 (by decide) ?_
          refine n_callV0 l_Reader_75 (C_Reader_pass hT g87 hL (by omega)) hT.1 dX4_readQuestion_93 rfl rfl (Nat.le_of_ble_eq_true rfl) ⟨⟨by decide, by decide⟩, by decide, by decide⟩ (fun S93 q93 => ?_)
          refine z_aload_n dX4_readQuestion_96 rfl ?_
          refine n_callV1 l_Reader_102 (C_Reader_passValue hT q93.2 hL (by omega)) hT.1 dX4_readQuestion_97 rfl rfl (Nat.le_of_ble_eq_true rfl) ⟨⟨by decide, by decide⟩, by decide, by decide⟩ (fun S97 q97 => ?_)
          have g97 : rd0 S97 a L tx (zq3 tx L s.c).2 := q97.2
          have f97 : frS S (inR a) S97 := ((f8.trans q87.1).trans q93.1).trans q97.1
          refine z_istore (lv' := [_, _, _, _, _, _]) dX4_readQuestion_100 (by decide) rfl ?_
          refine z_iload_n dX4_readQuestion_102 rfl ?_
          refine z_if_eq 119 dX4_readQuestion_103 (by decide) (fun c103 => ?_) (fun c103 => ?_)
          · refine z_iload dX4_readQuestion_119 rfl ?_
            refine z_if_eq 138 dX4_readQuestion_121 (by decide) (fun c121 => ?_) (fun c121 => ?_)
            · refine z_aload_n dX4_readQuestion_138 rfl ?_
              refine z_bipush 46 dX4_readQuestion_139 (by decide) ?_
              refine n_callV0 l_Reader_75 (C_Reader_pass hT g97 hL (by omega)) hT.1 dX4_readQuestion_141 rfl rfl (Nat.le_of_ble_eq_true rfl) ⟨⟨by decide, by decide⟩, by decide, by decide⟩ (fun S141 q141 => ?_)
              refine z_aload_n dX4_readQuestion_144 rfl ?_
              refine z_bipush 46 dX4_readQuestion_145 (by decide) ?_
              refine n_callV0 l_Reader_75 (C_Reader_pass hT q141.2 hL (by omega)) hT.1 dX4_readQuestion_147 rfl rfl (Nat.le_of_ble_eq_true rfl) ⟨⟨by decide, by decide⟩, by decide, by decide⟩ (fun S147 q147 => ?_)
              refine z_aload_n dX4_readQuestion_150 rfl ?_
              refine z_iconst 3 dX4_readQuestion_151 rfl ?_
              refine z_iload_n dX4_readQuestion_152 rfl ?_
              refine z_iload dX4_readQuestion_153 rfl ?_
              refine z_aload_n dX4_readQuestion_155 rfl ?_
              refine n_callV1 l_Reader_102 (C_Reader_passValue hT q147.2 hL (by omega)) hT.1 dX4_readQuestion_156 rfl rfl (Nat.le_of_ble_eq_true rfl) ⟨⟨by decide, by decide⟩, by decide, by decide⟩ (fun S156 q156 => ?_)
              have g156 : rd0 S156 a L tx (zq4 tx L s.c).2 := q156.2
              have f156 : frS S (inR a) S156 := ((f97.trans q141.1).trans q147.1).trans q156.1
              refine s_callV0 l_Reader_84 (C_Query_leafA hQ (eq4 f156) hc) hQ.1 dX4_readQuestion_159 rfl rfl (Nat.le_of_ble_eq_true rfl) ⟨⟨by decide, by decide⟩, by decide, by decide⟩ ?_
              refine z_return dX4_readQuestion_162 rfl ⟨Nat.le_refl _, Nat.le_refl _⟩ ?_
              refine ⟨rfl, _, rfl, rfl, (wk f156).trans wq, ?_⟩
              rw [ep]
              refine rP_push hd g156 k4.2 hc (eq4 f156) (qq f156 b4) (fun e => ?_)
              obtain ⟨c1, e1, e2⟩ := zq1_ok (tx := tx) hl hL (zq2_ok1 (zq3_ok2 (zq4_ok3 e)))
              obtain ⟨v1, e3, e4⟩ := zq3_ok (tx := tx) hl hL (zq4_ok3 e)
              obtain ⟨v2, e5, e6⟩ := zq4_ok (tx := tx) hl hL e
              show qM (3, iN (zq1 tx L s.c).1, iN (zq3 tx L s.c).1, iN (zq4 tx L s.c).1, 0, 0) 3 (zq1 tx L s.c).1 (zq3 tx L s.c).1 (zq4 tx L s.c).1
              rw [e2, e4, e6, iN_nI (by omega), iN_nI (by omega), iN_nI (by omega)]
              exact qM_in e1 e3 e5
            · exact absurd (by decide) c121
          · exact absurd (by decide) c103
        · exact absurd (by decide) c77
      · exact absurd (by decide) c67
  refine z_aload_n dX4_readQuestion_0 rfl ?_
  refine n_callV1 l_Reader_92 (C_Reader_passColumn hT h0 hL (by omega)) hT.1 dX4_readQuestion_1 rfl rfl (Nat.le_of_ble_eq_true rfl) ⟨⟨by decide, by decide⟩, by decide, by decide⟩ (fun S1 q1 => ?_)
  refine z_istore_n (lv' := [_, _, _, _, _, _]) dX4_readQuestion_4 (by decide) rfl ?_
  have g1 : rd0 S1 a L tx (zq1 tx L s.c).2 := q1.2
  refine z_aload_n dX4_readQuestion_5 rfl ?_
  refine z_bipush 32 dX4_readQuestion_6 (by decide) ?_
  refine n_callV0 l_Reader_75 (C_Reader_pass hT g1 hL (by omega)) hT.1 dX4_readQuestion_8 rfl rfl (Nat.le_of_ble_eq_true rfl) ⟨⟨by decide, by decide⟩, by decide, by decide⟩ (fun S8 q8 => ?_)
  have e8 : zi S8 a 2 = nI (cPass tx L 32 (zq1 tx L s.c).2).1 := q8.2.2.2.1
  have f8 : frS S (inR a) S8 := q1.1.trans q8.1
  refine z_aload_n dX4_readQuestion_11 rfl ?_
  refine z_aload_n dX4_readQuestion_12 rfl ?_
  refine s_geti f_Reader_19 dX4_readQuestion_13 (by assumption) rfl ?_
  refine z_ldcS 4 (by decide) rfl rfl dX4_readQuestion_16 ?_
  rw [e8]
  refine s_callV1 l_Reader_61 (C_Reader_isWordAt hT q8.2 hL (p := (cPass tx L 32 (zq1 tx L s.c).2).1) (by omega) (i := 4) (by decide)) hT.1 dX4_readQuestion_18 rfl rfl (Nat.le_of_ble_eq_true rfl) ⟨⟨by decide, by decide⟩, by decide, by decide⟩ ?_
  refine z_istore_n (lv' := [_, _, _, _, _, _]) dX4_readQuestion_21 (by decide) rfl ?_
  refine z_aload_n dX4_readQuestion_22 rfl ?_
  refine z_aload_n dX4_readQuestion_23 rfl ?_
  refine s_geti f_Reader_19 dX4_readQuestion_24 (by assumption) rfl ?_
  refine z_ldcS 5 (by decide) rfl rfl dX4_readQuestion_27 ?_
  rw [e8]
  refine s_callV1 l_Reader_61 (C_Reader_isWordAt hT q8.2 hL (p := (cPass tx L 32 (zq1 tx L s.c).2).1) (by omega) (i := 5) (by decide)) hT.1 dX4_readQuestion_29 rfl rfl (Nat.le_of_ble_eq_true rfl) ⟨⟨by decide, by decide⟩, by decide, by decide⟩ ?_
  refine z_istore (lv' := [_, _, _, _, _, _]) dX4_readQuestion_32 (by decide) rfl ?_
  refine z_iload_n dX4_readQuestion_34 rfl ?_
  refine z_if_ne 65 dX4_readQuestion_35 (by decide) (fun c35 => ?_) (fun c35 => ?_)
  · have w4 := zo_ne0.mp c35
    first
      | exact k65 S8 _ _ 4 1 f8 q8.2 (Or.inl ⟨w4, rfl, rfl⟩) (if_pos w4)
      | exact k65 S8 _ _ 5 2 f8 q8.2 (Or.inr (Or.inl ⟨n4, w5, rfl, rfl⟩)) ((if_neg (by rw [n4]; decide)).trans (if_pos w5))
      | exact k65 S8 _ _ 6 3 f8 q8.2 (Or.inr (Or.inr ⟨n4, n5, rfl, rfl⟩)) ((if_neg (by rw [n4]; decide)).trans ((if_neg (by rw [n5]; decide)).trans (if_pos w6)))
  · have n4 := zo_eq0.mp c35
    refine z_iload dX4_readQuestion_38 rfl ?_
    refine z_if_ne 65 dX4_readQuestion_40 (by decide) (fun c40 => ?_) (fun c40 => ?_)
    · have w5 := zo_ne0.mp c40
      first
        | exact k65 S8 _ _ 4 1 f8 q8.2 (Or.inl ⟨w4, rfl, rfl⟩) (if_pos w4)
        | exact k65 S8 _ _ 5 2 f8 q8.2 (Or.inr (Or.inl ⟨n4, w5, rfl, rfl⟩)) ((if_neg (by rw [n4]; decide)).trans (if_pos w5))
        | exact k65 S8 _ _ 6 3 f8 q8.2 (Or.inr (Or.inr ⟨n4, n5, rfl, rfl⟩)) ((if_neg (by rw [n4]; decide)).trans ((if_neg (by rw [n5]; decide)).trans (if_pos w6)))
    · have n5 := zo_eq0.mp c40
      refine z_aload_n dX4_readQuestion_43 rfl ?_
      refine z_aload_n dX4_readQuestion_44 rfl ?_
      refine s_geti f_Reader_19 dX4_readQuestion_45 (by assumption) rfl ?_
      refine z_ldcS 6 (by decide) rfl rfl dX4_readQuestion_48 ?_
      rw [e8]
      refine s_callV1 l_Reader_61 (C_Reader_isWordAt hT q8.2 hL (p := (cPass tx L 32 (zq1 tx L s.c).2).1) (by omega) (i := 6) (by decide)) hT.1 dX4_readQuestion_50 rfl rfl (Nat.le_of_ble_eq_true rfl) ⟨⟨by decide, by decide⟩, by decide, by decide⟩ ?_
      refine z_if_ne 65 dX4_readQuestion_53 (by decide) (fun c53 => ?_) (fun c53 => ?_)
      · have w6 := zo_ne0.mp c53
        first
          | exact k65 S8 _ _ 4 1 f8 q8.2 (Or.inl ⟨w4, rfl, rfl⟩) (if_pos w4)
          | exact k65 S8 _ _ 5 2 f8 q8.2 (Or.inr (Or.inl ⟨n4, w5, rfl, rfl⟩)) ((if_neg (by rw [n4]; decide)).trans (if_pos w5))
          | exact k65 S8 _ _ 6 3 f8 q8.2 (Or.inr (Or.inr ⟨n4, n5, rfl, rfl⟩)) ((if_neg (by rw [n4]; decide)).trans ((if_neg (by rw [n5]; decide)).trans (if_pos w6)))
      · have n6 := zo_eq0.mp c53
        refine z_aload_n dX4_readQuestion_56 rfl ?_
        refine z_aload_n dX4_readQuestion_57 rfl ?_
        refine s_geti f_Reader_19 dX4_readQuestion_58 (by assumption) rfl ?_
        rw [e8]
        refine n_callV0 l_Reader_69 (C_Reader_blame hT q8.2) hT.1 dX4_readQuestion_61 rfl rfl (Nat.le_of_ble_eq_true rfl) ⟨⟨by decide, by decide⟩, by decide, by decide⟩ (fun S61 q61 => ?_)
        refine z_return dX4_readQuestion_64 rfl ⟨Nat.le_refl _, Nat.le_refl _⟩ ?_
        have hz : zq2 tx L s.c = (-1, (cPass tx L 32 (zq1 tx L s.c).2).1, bl (cPass tx L 32 (zq1 tx L s.c).2).2 (nI (cPass tx L 32 (zq1 tx L s.c).2).1)) := (if_neg (by rw [n4]; decide)).trans ((if_neg (by rw [n5]; decide)).trans (if_neg (by rw [n6]; decide)))
        have z21 : (zq2 tx L s.c).1 = -1 := congrArg (fun y => y.1) hz
        have ep : pQ tx L s = psC (zq2 tx L s.c).2 s := by unfold pQ; rw [if_neg (by rw [z21]; decide), if_neg (by rw [z21]; decide), if_neg (by rw [z21]; decide)]
        have g61 : rd0 S61 a L tx (zq2 tx L s.c).2 := by rw [hz]; exact q61.2
        refine ⟨rfl, _, rfl, rfl, wk (f8.trans q61.1), ?_⟩
        rw [ep]
        exact rP_mv hd hr (f8.trans q61.1) g61 k2.2 (zq2_k (tx := tx) (L := L) s.c).back
end READ3

theorem qM_join {x y : Nat} (k : Nat) (hk : k = 4 ∨ k = 5 ∨ k = 6) : qM (k, 0, 0, 0, x, y) (nI k) 0 0 0 := by
  refine ⟨bsx_nI k (by omega), fun h => ?_⟩
  have h : k ≤ 3 := h
  omega
theorem qM_all : qM (0, 0, 0, 0, 0, 0) 0 0 0 0 := by
  refine ⟨(by decide : bsx 0 = nI 0), fun _ => ⟨(by decide : bsx 0 = nI 0), (by decide : bsx 0 = nI 0), ?_⟩⟩
  show bsx 0 = nI (0 + 1) - 1
  decide
theorem isJ_in {tx : Nat → Int32} {L i : Nat} {s : PC} (hi : i < 7) (h : isJ tx L i s = true) : s.2 = -1 ∧ sgn tx L s.1 = 32 ∧ isW tx L (s.1 + 1) i = true ∧ cPJ tx L i s = cPass tx L 32 (s.1 + 1 + wln i, s.2) ∧ s.1 + 1 + wln i ≤ L := by
  unfold isJ at h
  rw [Bool.and_eq_true, Bool.and_eq_true] at h
  obtain ⟨⟨h1, h2⟩, h3⟩ := h
  have h2 := of_decide_eq_true h2
  refine ⟨of_decide_eq_true h1, h2, h3, ?_, isW_in hi h3⟩
  unfold cPJ
  rw [show cPass tx L 32 s = (s.1 + 1, s.2) from if_pos h2]
def FacOK (G : zG) (sh : Nat → Option zSh) (M : zM) (a q L : Nat) (tx : Nat → Int32) (D : Nat) (w : Int32) (X : PS → PS) : Prop := ∀ S s, rP S a q L tx s → zN G M D sh [.ref a, .ref q, .int w] S none (fun S' => frS S (inRQ a q) S' ∧ rP S' a q L tx (X s))
section READ4
variable {G : zG} {sh : Nat → Option zSh} {S S0 : zSt} {a q L p i k c D : Nat} {tx : Nat → Int32} {s : PS} {w : Int32} {X : PS → PS}
theorem L_both {F : zFin} {sz : Nat} (hT : tReader sh a) (hQ : tQuery sh q) (hd : a + 2 ≤ q ∨ q + 5 ≤ a) (hL : L ≤ 100) (hD : 7 ≤ D) (hX : FacOK G sh m_Reader_readFactor a q L tx D w X) :
    ∀ d k S s, 100 - k = d → k ≤ 100 → frS S0 (inRQ a q) S → rP S a q L tx s → (∀ S' z, frS S0 (inRQ a q) S' → rP S' a q L tx (pLoop tx L 1 5 X d s) → zW G m_Reader_readBoth (zRm (D + 1) 0 0) F 0 0 46 [some (.ref a), some (.ref q), some (.int w), some (.int z)] [] (zhp sh S') sz) → zW G m_Reader_readBoth (zRm (D + 1) 0 0) F 0 0 8 [some (.ref a), some (.ref q), some (.int w), some (.int (nI k))] [] (zhp sh S) sz := by
  intro d
  induction d with
  | zero =>
    intro k S s h1 h2 h3 h4 kk
    have e : k = 100 := by omega
    subst e
    refine z_iload_n dX4_readBoth_8 rfl ?_
    refine z_bipush 100 dX4_readBoth_9 (by decide) ?_
    refine z_icmp_ge 46 dX4_readBoth_11 (by decide) (fun c11 => ?_) (fun c11 => ?_)
    · exact kk S _ h3 h4
    · exact absurd (by decide) c11
  | succ d ih =>
    intro k S s h1 h2 h3 h4 kk
    have hp : s.c.1 ≤ L := h4.2.1
    unfold pLoop at kk
    refine z_iload_n dX4_readBoth_8 rfl ?_
    refine z_bipush 100 dX4_readBoth_9 (by decide) ?_
    refine z_icmp_ge 46 dX4_readBoth_11 (by decide) (fun c11 => ?_) (fun c11 => ?_)
    · exact absurd c11 (nI_ge (b := 100) (by omega) (by decide))
    · refine z_aload_n dX4_readBoth_14 rfl ?_
      refine z_ldcS 1 (by decide) rfl rfl dX4_readBoth_15 ?_
      refine s_callV1 l_Reader_42 (C_Reader_isJoinedBy hT h4.1 hL (by omega) (i := 1) (by decide)) hT.1 dX4_readBoth_17 rfl rfl (Nat.le_of_ble_eq_true rfl) (rrm (by omega) (by decide)) ?_
      refine z_if_eq 46 dX4_readBoth_20 (by decide) (fun c20 => ?_) (fun c20 => ?_)
      · rw [if_neg (by rw [zo_eq0.mp c20]; decide)] at kk
        exact kk S _ h3 h4
      · rw [if_pos (zo_ne0.mp c20)] at kk
        obtain ⟨j1, j2, j3, j4, j5⟩ := isJ_in (by decide) (zo_ne0.mp c20)
        have hk : (cPJ tx L 1 s.c).1 ≤ L := by
          rw [j4]
          exact ((cPass_k (tx := tx) (L := L) (c := 32) (by decide) (s.c.1 + 1 + wln 1, s.c.2)).1 j5).2
        refine z_aload_n dX4_readBoth_23 rfl ?_
        refine z_ldcS 1 (by decide) rfl rfl dX4_readBoth_24 ?_
        refine n_callV0 l_Reader_46 (C_Reader_passJoin hT h4.1 hL (by omega) (i := 1) (by decide)) hT.1 dX4_readBoth_26 rfl rfl (Nat.le_of_ble_eq_true rfl) (rrm (by omega) (by decide)) (fun S26 q26 => ?_)
        refine z_aload_n dX4_readBoth_29 rfl ?_
        refine z_aload_n dX4_readBoth_30 rfl ?_
        refine z_iload_n dX4_readBoth_31 rfl ?_
        refine n_callV0 l_Reader_54 (hX _ _ (rP_mv hd h4 q26.1 q26.2 hk (fun _ => j1))) hT.1 dX4_readBoth_32 rfl rfl (Nat.le_of_ble_eq_true rfl) (rrm (by omega) (by decide)) (fun S32 q32 => ?_)
        obtain ⟨g0, gl, c, gc, ge, gq⟩ := q32.2
        refine z_aload_n dX4_readBoth_35 rfl ?_
        refine z_iconst 5 dX4_readBoth_36 rfl ?_
        refine s_callV0 l_Reader_50 (C_Query_joinA hQ ge gc) hQ.1 dX4_readBoth_37 rfl rfl (Nat.le_of_ble_eq_true rfl) (rrm (by omega) (by decide)) ?_
        refine z_iinc (lv' := [_, _, _, _]) 1 dX4_readBoth_40 rfl (by decide) rfl rfl ?_
        refine z_goto 8 dX4_readBoth_43 (by decide) ?_
        rw [nI_1]
        refine ih (k + 1) _ (pJn tx L 1 5 X s) (by omega) (by omega) ((h3.trans (q26.1.weaken (fun b e => Or.inl e))).trans (q32.1.trans (qAdd_fr.weaken (fun b e => Or.inr e)))) ?_ kk
        exact rP_push hd g0 gl gc ge gq (fun _ => qM_join 5 (by decide))
theorem C_Reader_readBoth (hT : tReader sh a) (hQ : tQuery sh q) (hd : a + 2 ≤ q ∨ q + 5 ≤ a) (hL : L ≤ 100) (hD : 7 ≤ D) (hX : FacOK G sh m_Reader_readFactor a q L tx D w X) : FacOK G sh m_Reader_readBoth a q L tx (D + 1) w (pB tx L X) := by
  intro S s h
  refine s_meth 1 ⟨p_Reader, rfl, Nat.le_of_ble_eq_true rfl⟩ rfl (fun sz => ?_)
  refine z_aload_n dX4_readBoth_0 rfl ?_
  refine z_aload_n dX4_readBoth_1 rfl ?_
  refine z_iload_n dX4_readBoth_2 rfl ?_
  refine n_callV0 l_Reader_54 (hX _ _ h) hT.1 dX4_readBoth_3 rfl rfl (Nat.le_of_ble_eq_true rfl) (rrm (by omega) (by decide)) (fun S3 q3 => ?_)
  refine z_iconst 0 dX4_readBoth_6 rfl ?_
  refine z_istore_n (lv' := [_, _, _, _]) dX4_readBoth_7 (by decide) rfl ?_
  refine L_both (S0 := S) hT hQ hd hL hD hX 100 0 _ _ rfl (by decide) q3.1 q3.2 (fun S' z g1 g2 => ?_)
  refine z_return dX4_readBoth_46 rfl ⟨Nat.le_refl _, Nat.le_refl _⟩ ?_
  exact ⟨rfl, _, rfl, rfl, g1, g2⟩
theorem L_either {F : zFin} {sz : Nat} (hT : tReader sh a) (hQ : tQuery sh q) (hd : a + 2 ≤ q ∨ q + 5 ≤ a) (hL : L ≤ 100) (hD : 7 ≤ D) (hX : FacOK G sh m_Reader_readBoth a q L tx D w X) :
    ∀ d k S s, 100 - k = d → k ≤ 100 → frS S0 (inRQ a q) S → rP S a q L tx s → (∀ S' z, frS S0 (inRQ a q) S' → rP S' a q L tx (pLoop tx L 0 6 X d s) → zW G m_Reader_readEither (zRm (D + 1) 0 0) F 0 0 47 [some (.ref a), some (.ref q), some (.int w), some (.int z)] [] (zhp sh S') sz) → zW G m_Reader_readEither (zRm (D + 1) 0 0) F 0 0 8 [some (.ref a), some (.ref q), some (.int w), some (.int (nI k))] [] (zhp sh S) sz := by
  intro d
  induction d with
  | zero =>
    intro k S s h1 h2 h3 h4 kk
    have e : k = 100 := by omega
    subst e
    refine z_iload_n dX4_readEither_8 rfl ?_
    refine z_bipush 100 dX4_readEither_9 (by decide) ?_
    refine z_icmp_ge 47 dX4_readEither_11 (by decide) (fun c11 => ?_) (fun c11 => ?_)
    · exact kk S _ h3 h4
    · exact absurd (by decide) c11
  | succ d ih =>
    intro k S s h1 h2 h3 h4 kk
    have hp : s.c.1 ≤ L := h4.2.1
    unfold pLoop at kk
    refine z_iload_n dX4_readEither_8 rfl ?_
    refine z_bipush 100 dX4_readEither_9 (by decide) ?_
    refine z_icmp_ge 47 dX4_readEither_11 (by decide) (fun c11 => ?_) (fun c11 => ?_)
    · exact absurd c11 (nI_ge (b := 100) (by omega) (by decide))
    · refine z_aload_n dX4_readEither_14 rfl ?_
      refine z_ldcS 0 (by decide) rfl rfl dX4_readEither_15 ?_
      refine s_callV1 l_Reader_42 (C_Reader_isJoinedBy hT h4.1 hL (by omega) (i := 0) (by decide)) hT.1 dX4_readEither_17 rfl rfl (Nat.le_of_ble_eq_true rfl) (rrm (by omega) (by decide)) ?_
      refine z_if_eq 47 dX4_readEither_20 (by decide) (fun c20 => ?_) (fun c20 => ?_)
      · rw [if_neg (by rw [zo_eq0.mp c20]; decide)] at kk
        exact kk S _ h3 h4
      · rw [if_pos (zo_ne0.mp c20)] at kk
        obtain ⟨j1, j2, j3, j4, j5⟩ := isJ_in (by decide) (zo_ne0.mp c20)
        have hk : (cPJ tx L 0 s.c).1 ≤ L := by
          rw [j4]
          exact ((cPass_k (tx := tx) (L := L) (c := 32) (by decide) (s.c.1 + 1 + wln 0, s.c.2)).1 j5).2
        refine z_aload_n dX4_readEither_23 rfl ?_
        refine z_ldcS 0 (by decide) rfl rfl dX4_readEither_24 ?_
        refine n_callV0 l_Reader_46 (C_Reader_passJoin hT h4.1 hL (by omega) (i := 0) (by decide)) hT.1 dX4_readEither_26 rfl rfl (Nat.le_of_ble_eq_true rfl) (rrm (by omega) (by decide)) (fun S26 q26 => ?_)
        refine z_aload_n dX4_readEither_29 rfl ?_
        refine z_aload_n dX4_readEither_30 rfl ?_
        refine z_iload_n dX4_readEither_31 rfl ?_
        refine n_callV0 l_Reader_37 (hX _ _ (rP_mv hd h4 q26.1 q26.2 hk (fun _ => j1))) hT.1 dX4_readEither_32 rfl rfl (Nat.le_of_ble_eq_true rfl) (rrm (by omega) (by decide)) (fun S32 q32 => ?_)
        obtain ⟨g0, gl, c, gc, ge, gq⟩ := q32.2
        refine z_aload_n dX4_readEither_35 rfl ?_
        refine z_bipush 6 dX4_readEither_36 (by decide) ?_
        refine s_callV0 l_Reader_50 (C_Query_joinA hQ ge gc) hQ.1 dX4_readEither_38 rfl rfl (Nat.le_of_ble_eq_true rfl) (rrm (by omega) (by decide)) ?_
        refine z_iinc (lv' := [_, _, _, _]) 1 dX4_readEither_41 rfl (by decide) rfl rfl ?_
        refine z_goto 8 dX4_readEither_44 (by decide) ?_
        rw [nI_1]
        refine ih (k + 1) _ (pJn tx L 0 6 X s) (by omega) (by omega) ((h3.trans (q26.1.weaken (fun b e => Or.inl e))).trans (q32.1.trans (qAdd_fr.weaken (fun b e => Or.inr e)))) ?_ kk
        exact rP_push hd g0 gl gc ge gq (fun _ => qM_join 6 (by decide))
theorem C_Reader_readEither (hT : tReader sh a) (hQ : tQuery sh q) (hd : a + 2 ≤ q ∨ q + 5 ≤ a) (hL : L ≤ 100) (hD : 7 ≤ D) (hX : FacOK G sh m_Reader_readFactor a q L tx D w X) : FacOK G sh m_Reader_readEither a q L tx (D + 1 + 1) w (pE tx L X) := by
  intro S s h
  have hB := C_Reader_readBoth hT hQ hd hL hD hX
  refine s_meth 1 ⟨p_Reader, rfl, Nat.le_of_ble_eq_true rfl⟩ rfl (fun sz => ?_)
  refine z_aload_n dX4_readEither_0 rfl ?_
  refine z_aload_n dX4_readEither_1 rfl ?_
  refine z_iload_n dX4_readEither_2 rfl ?_
  refine n_callV0 l_Reader_37 (hB _ _ h) hT.1 dX4_readEither_3 rfl rfl (Nat.le_of_ble_eq_true rfl) (rrm (by omega) (by decide)) (fun S3 q3 => ?_)
  refine z_iconst 0 dX4_readEither_6 rfl ?_
  refine z_istore_n (lv' := [_, _, _, _]) dX4_readEither_7 (by decide) rfl ?_
  refine L_either (S0 := S) hT hQ hd hL (by omega) hB 100 0 _ _ rfl (by decide) q3.1 q3.2 (fun S' z g1 g2 => ?_)
  refine z_return dX4_readEither_47 rfl ⟨Nat.le_refl _, Nat.le_refl _⟩ ?_
  exact ⟨rfl, _, rfl, rfl, g1, g2⟩
end READ4

section FAC
variable {tx : Nat → Int32} {L d : Nat} {E X : PS → PS} {s : PS}
theorem pFac_0 (h : ¬ s.f = -1) : pFac tx L d E X s = s := if_neg h
theorem pFac_1 (h : s.f = -1) (h1 : (isW tx L s.p 2 = true ∨ sgn tx L s.p = 40) ∧ d = 0) : pFac tx L d E X s = psC (s.p, bl s.f (nI s.p)) s := by
  unfold pFac; rw [if_pos h, if_pos h1]
theorem pFac_2 (h : s.f = -1) (h1 : ¬ ((isW tx L s.p 2 = true ∨ sgn tx L s.p = 40) ∧ d = 0)) (h2 : isW tx L s.p 2 = true) : pFac tx L d E X s = psN (4, 0, 0, 0, (X (psC (cPass tx L 32 (s.p + 3, s.f)) s)).n - 1, 0) (X (psC (cPass tx L 32 (s.p + 3, s.f)) s)) := by
  unfold pFac; rw [if_pos h, if_neg h1, if_pos h2]
theorem pFac_3 (h : s.f = -1) (h1 : ¬ ((isW tx L s.p 2 = true ∨ sgn tx L s.p = 40) ∧ d = 0)) (h2 : ¬ isW tx L s.p 2 = true) (h3 : sgn tx L s.p = 40) : pFac tx L d E X s = psC (cClose tx L (E (psC (cPass tx L 40 s.c) s)).c) (E (psC (cPass tx L 40 s.c) s)) := by
  unfold pFac; rw [if_pos h, if_neg h1, if_neg h2, if_pos h3]
theorem pFac_4 (h : s.f = -1) (h2 : ¬ isW tx L s.p 2 = true) (h3 : ¬ sgn tx L s.p = 40) (h4 : isW tx L s.p 3 = true) : pFac tx L d E X s = psN (0, 0, 0, 0, 0, 0) (psC (s.p + 3, s.f) s) := by
  unfold pFac; rw [if_pos h, if_neg (fun z => z.1.elim h2 h3), if_neg h2, if_neg h3, if_pos h4]
theorem pFac_5 (h : s.f = -1) (h2 : ¬ isW tx L s.p 2 = true) (h3 : ¬ sgn tx L s.p = 40) (h4 : ¬ isW tx L s.p 3 = true) : pFac tx L d E X s = pQ tx L s := by
  unfold pFac; rw [if_pos h, if_neg (fun z => z.1.elim h2 h3), if_neg h2, if_neg h3, if_neg h4]
end FAC
section READ5
variable {G : zG} {sh : Nat → Option zSh} {S S0 : zSt} {a q L p i k c d D De Df : Nat} {tx : Nat → Int32} {s : PS} {E X : PS → PS}
theorem L_factor {F : zFin} {sz : Nat} (hT : tReader sh a) (hQ : tQuery sh q) (hd : a + 2 ≤ q ∨ q + 5 ≤ a) (hL : L ≤ 100) (hD : 10 ≤ D) (hd6 : d ≤ 6) (hDe : De + 1 ≤ D) (hDf : Df + 1 ≤ D) (hE : d ≠ 0 → FacOK G sh m_Reader_readEither a q L tx De (nI (6 - d + 1)) E) (hX : d ≠ 0 → FacOK G sh m_Reader_readFactor a q L tx Df (nI (6 - d + 1)) X) (h : rP S a q L tx s) (fin : ∀ S' z3 z4, frS S (inRQ a q) S' → rP S' a q L tx (pFac tx L d E X s) → zW G m_Reader_readFactor (zRm (D) 0 0) F 0 0 159 [some (.ref a), some (.ref q), some (.int (nI (6 - d))), z3, z4] [] (zhp sh S') sz) (fin0 : frS S (inRQ a q) S → rP S a q L tx (pFac tx L d E X s) → ∀ z3 z4, zW G m_Reader_readFactor (zRm (D) 0 0) F 0 0 8 [some (.ref a), some (.ref q), some (.int (nI (6 - d))), z3, z4] [] (zhp sh S) sz) : ∀ z3 z4, zW G m_Reader_readFactor (zRm (D) 0 0) F 0 0 0 [some (.ref a), some (.ref q), some (.int (nI (6 - d))), z3, z4] [] (zhp sh S) sz := by
  intro z3 z4
  have t1 := hT.1
  have h0 := h.1
  have hl : s.c.1 ≤ L := h.2.1
  have e2 : zi S a 2 = nI s.c.1 := h0.2.2.1
  have e3 : zi S a 3 = s.c.2 := h0.2.2.2
  have wk : ∀ {S1 S2}, frS S1 (inR a) S2 → frS S1 (inRQ a q) S2 := fun f => f.weaken (fun b e => Or.inl e)
  have wq : ∀ {S1 c x y z w}, frS S1 (inRQ a q) (qAdd S1 q c x y z w) := qAdd_fr.weaken (fun b e => Or.inr e)
  by_cases hf : s.f = -1
  · have k66 : ¬ ((isW tx L s.p 2 = true ∨ sgn tx L s.p = 40) ∧ d = 0) → zW G m_Reader_readFactor (zRm (D) 0 0) F 0 0 66 [some (.ref a), some (.ref q), some (.int (nI (6 - d))), some (.int (zo (isW tx L s.p 2))), some (.int (zo (decide (sgn tx L s.p = 40))))] [] (zhp sh S) sz := by
      intro hn
      refine z_iload_n dX4_readFactor_66 rfl ?_
      refine z_if_eq 98 dX4_readFactor_67 (by decide) (fun c67 => ?_) (fun c67 => ?_)
      · have h2 : ¬ isW tx L s.p 2 = true := by rw [zo_eq0.mp c67]; decide
        refine z_iload dX4_readFactor_98 rfl ?_
        refine z_if_eq 124 dX4_readFactor_100 (by decide) (fun c100 => ?_) (fun c100 => ?_)
        · have h3 : ¬ sgn tx L s.p = 40 := of_decide_eq_false (zo_eq0.mp c100)
          refine z_aload_n dX4_readFactor_124 rfl ?_
          refine z_aload_n dX4_readFactor_125 rfl ?_
          refine s_geti f_Reader_19 dX4_readFactor_126 (by assumption) rfl ?_
          refine z_ldcS 3 (by decide) rfl rfl dX4_readFactor_129 ?_
          rw [e2]
          refine s_callV1 l_Reader_61 (C_Reader_isWordAt hT h0 hL (p := s.c.1) (by omega) (i := 3) (by decide)) hT.1 dX4_readFactor_131 rfl rfl (Nat.le_of_ble_eq_true rfl) (rrm (by omega) (by decide)) ?_
          refine z_if_eq 154 dX4_readFactor_134 (by decide) (fun c134 => ?_) (fun c134 => ?_)
          · have h4 : ¬ isW tx L s.p 3 = true := by rw [zo_eq0.mp c134]; decide
            refine z_aload_n dX4_readFactor_154 rfl ?_
            refine z_aload_n dX4_readFactor_155 rfl ?_
            refine n_callV0 l_Reader_88 (C_Reader_readQuestion hT hQ hd hL h) hT.1 dX4_readFactor_156 rfl rfl (Nat.le_of_ble_eq_true rfl) (rrm (by omega) (by decide)) (fun S156 q156 => ?_)
            first
              | (refine fin _ _ _ ((wk (q73.1.trans q79.1)).trans (q87.1.trans wq)) ?_
                 rw [pFac_2 hf hn h2]
                 exact rP_push hd g0 gl gc ge gq (fun _ => qM_join 4 (by decide)))
              | (refine fin _ _ _ ((wk q106.1).trans (q114.1.trans (wk q118.1))) ?_
                 rw [pFac_3 hf hn h2 h3]
                 exact rP_mv hd q114.2 q118.1 q118.2 ((cClose_k _).1 gl).2 (cClose_k (tx := tx) (L := L) _).back)
              | (refine fin _ _ _ ((wk q140.1).trans wq) ?_
                 rw [pFac_4 hf h2 h3 h4]
                 exact rP_push hd g0 gl gc ge gq (fun _ => qM_all))
              | (refine fin _ _ _ q156.1 ?_
                 rw [pFac_5 hf h2 h3 h4]
                 exact q156.2)
              | skip
          · have h4 := zo_ne0.mp c134
            have hw : s.p + 3 ≤ L := isW_in (by decide) h4
            refine z_aload_n dX4_readFactor_137 rfl ?_
            refine z_ldcS 3 (by decide) rfl rfl dX4_readFactor_138 ?_
            refine n_callV0 l_Reader_72 (C_Reader_passWord hT h0 (i := 3) (by decide)) hT.1 dX4_readFactor_140 rfl rfl (Nat.le_of_ble_eq_true rfl) (rrm (by omega) (by decide)) (fun S140 q140 => ?_)
            obtain ⟨g0, gl, c, gc, ge, gq⟩ := rP_mv (t := (s.p + 3, s.f)) hd h q140.1 q140.2 hw (fun _ => hf)
            refine z_aload_n dX4_readFactor_143 rfl ?_
            refine z_iconst 0 dX4_readFactor_144 rfl ?_
            refine z_iconst 0 dX4_readFactor_145 rfl ?_
            refine z_iconst 0 dX4_readFactor_146 rfl ?_
            refine z_iconst 0 dX4_readFactor_147 rfl ?_
            refine s_callV0 l_Reader_84 (C_Query_leafA hQ ge gc) hQ.1 dX4_readFactor_148 rfl rfl (Nat.le_of_ble_eq_true rfl) (rrm (by omega) (by decide)) ?_
            refine z_goto 159 dX4_readFactor_151 (by decide) ?_
            first
              | (refine fin _ _ _ ((wk (q73.1.trans q79.1)).trans (q87.1.trans wq)) ?_
                 rw [pFac_2 hf hn h2]
                 exact rP_push hd g0 gl gc ge gq (fun _ => qM_join 4 (by decide)))
              | (refine fin _ _ _ ((wk q106.1).trans (q114.1.trans (wk q118.1))) ?_
                 rw [pFac_3 hf hn h2 h3]
                 exact rP_mv hd q114.2 q118.1 q118.2 ((cClose_k _).1 gl).2 (cClose_k (tx := tx) (L := L) _).back)
              | (refine fin _ _ _ ((wk q140.1).trans wq) ?_
                 rw [pFac_4 hf h2 h3 h4]
                 exact rP_push hd g0 gl gc ge gq (fun _ => qM_all))
              | (refine fin _ _ _ q156.1 ?_
                 rw [pFac_5 hf h2 h3 h4]
                 exact q156.2)
              | skip
        · have h3 := of_decide_eq_true (zo_ne0.mp c100)
          have hd0 : d ≠ 0 := fun e => hn ⟨Or.inr h3, e⟩
          have k4 := ((cPass_k (tx := tx) (L := L) (c := 40) (by decide) s.c).1 hl).2
          refine z_aload_n dX4_readFactor_103 rfl ?_
          refine z_bipush 40 dX4_readFactor_104 (by decide) ?_
          refine n_callV0 l_Reader_75 (C_Reader_pass hT h0 hL (by omega)) hT.1 dX4_readFactor_106 rfl rfl (Nat.le_of_ble_eq_true rfl) (rrm (by omega) (by decide)) (fun S106 q106 => ?_)
          refine z_aload_n dX4_readFactor_109 rfl ?_
          refine z_aload_n dX4_readFactor_110 rfl ?_
          refine z_iload_n dX4_readFactor_111 rfl ?_
          refine z_iconst 1 dX4_readFactor_112 rfl ?_
          refine z_iadd dX4_readFactor_113 ?_
          rw [nI_1]
          refine n_callV0 l_Reader_30 (hE hd0 _ _ (rP_mv (t := cPass tx L 40 s.c) hd h q106.1 q106.2 k4 (fun _ => hf))) hT.1 dX4_readFactor_114 rfl rfl (Nat.le_of_ble_eq_true rfl) (rrm (by omega) (by decide)) (fun S114 q114 => ?_)
          have gl : (E (psC (cPass tx L 40 s.c) s)).c.1 ≤ L := q114.2.2.1
          refine z_aload_n dX4_readFactor_117 rfl ?_
          refine n_callV0 l_Reader_79 (C_Reader_passClosing hT q114.2.1 hL (by omega)) hT.1 dX4_readFactor_118 rfl rfl (Nat.le_of_ble_eq_true rfl) (rrm (by omega) (by decide)) (fun S118 q118 => ?_)
          refine z_goto 159 dX4_readFactor_121 (by decide) ?_
          first
            | (refine fin _ _ _ ((wk (q73.1.trans q79.1)).trans (q87.1.trans wq)) ?_
               rw [pFac_2 hf hn h2]
               exact rP_push hd g0 gl gc ge gq (fun _ => qM_join 4 (by decide)))
            | (refine fin _ _ _ ((wk q106.1).trans (q114.1.trans (wk q118.1))) ?_
               rw [pFac_3 hf hn h2 h3]
               exact rP_mv hd q114.2 q118.1 q118.2 ((cClose_k _).1 gl).2 (cClose_k (tx := tx) (L := L) _).back)
            | (refine fin _ _ _ ((wk q140.1).trans wq) ?_
               rw [pFac_4 hf h2 h3 h4]
               exact rP_push hd g0 gl gc ge gq (fun _ => qM_all))
            | (refine fin _ _ _ q156.1 ?_
               rw [pFac_5 hf h2 h3 h4]
               exact q156.2)
            | skip
      · have h2 := zo_ne0.mp c67
        have hd0 : d ≠ 0 := fun e => hn ⟨Or.inl h2, e⟩
        have hw := isW_in (by decide) h2
        have hw : s.p + 3 ≤ L := hw
        have k3 := ((cPass_k (tx := tx) (L := L) (c := 32) (by decide) (s.p + 3, s.f)).1 hw).2
        refine z_aload_n dX4_readFactor_70 rfl ?_
        refine z_ldcS 2 (by decide) rfl rfl dX4_readFactor_71 ?_
        refine n_callV0 l_Reader_72 (C_Reader_passWord hT h0 (i := 2) (by decide)) hT.1 dX4_readFactor_73 rfl rfl (Nat.le_of_ble_eq_true rfl) (rrm (by omega) (by decide)) (fun S73 q73 => ?_)
        refine z_aload_n dX4_readFactor_76 rfl ?_
        refine z_bipush 32 dX4_readFactor_77 (by decide) ?_
        refine n_callV0 l_Reader_75 (C_Reader_pass hT q73.2 hL (show s.p + 3 < 2 ^ 31 by omega)) hT.1 dX4_readFactor_79 rfl rfl (Nat.le_of_ble_eq_true rfl) (rrm (by omega) (by decide)) (fun S79 q79 => ?_)
        refine z_aload_n dX4_readFactor_82 rfl ?_
        refine z_aload_n dX4_readFactor_83 rfl ?_
        refine z_iload_n dX4_readFactor_84 rfl ?_
        refine z_iconst 1 dX4_readFactor_85 rfl ?_
        refine z_iadd dX4_readFactor_86 ?_
        rw [nI_1]
        refine n_callV0 l_Reader_54 (hX hd0 _ _ (rP_mv (t := cPass tx L 32 (s.p + 3, s.f)) hd h (q73.1.trans q79.1) q79.2 k3 (fun _ => hf))) hT.1 dX4_readFactor_87 rfl rfl (Nat.le_of_ble_eq_true rfl) (rrm (by omega) (by decide)) (fun S87 q87 => ?_)
        obtain ⟨g0, gl, c, gc, ge, gq⟩ := q87.2
        refine z_aload_n dX4_readFactor_90 rfl ?_
        refine z_iconst 4 dX4_readFactor_91 rfl ?_
        refine s_callV0 l_Reader_50 (C_Query_joinA hQ ge gc) hQ.1 dX4_readFactor_92 rfl rfl (Nat.le_of_ble_eq_true rfl) (rrm (by omega) (by decide)) ?_
        refine z_goto 159 dX4_readFactor_95 (by decide) ?_
        first
          | (refine fin _ _ _ ((wk (q73.1.trans q79.1)).trans (q87.1.trans wq)) ?_
             rw [pFac_2 hf hn h2]
             exact rP_push hd g0 gl gc ge gq (fun _ => qM_join 4 (by decide)))
          | (refine fin _ _ _ ((wk q106.1).trans (q114.1.trans (wk q118.1))) ?_
             rw [pFac_3 hf hn h2 h3]
             exact rP_mv hd q114.2 q118.1 q118.2 ((cClose_k _).1 gl).2 (cClose_k (tx := tx) (L := L) _).back)
          | (refine fin _ _ _ ((wk q140.1).trans wq) ?_
             rw [pFac_4 hf h2 h3 h4]
             exact rP_push hd g0 gl gc ge gq (fun _ => qM_all))
          | (refine fin _ _ _ q156.1 ?_
             rw [pFac_5 hf h2 h3 h4]
             exact q156.2)
          | skip
    have k49 : (isW tx L s.p 2 = true ∨ sgn tx L s.p = 40) → zW G m_Reader_readFactor (zRm (D) 0 0) F 0 0 49 [some (.ref a), some (.ref q), some (.int (nI (6 - d))), some (.int (zo (isW tx L s.p 2))), some (.int (zo (decide (sgn tx L s.p = 40))))] [] (zhp sh S) sz := by
      intro hn
      refine z_iload_n dX4_readFactor_49 rfl ?_
      refine z_bipush 6 dX4_readFactor_50 (by decide) ?_
      refine z_icmp_lt 66 dX4_readFactor_52 (by decide) (fun c52 => ?_) (fun c52 => ?_)
      · exact k66 (fun z => by rw [z.2] at c52; exact absurd c52 (by decide))
      · have hd0 : d = 0 := by
          rcases Nat.eq_zero_or_pos d with e | e
          · exact e
          · exact absurd (nI_lt (b := 6) (show 6 - d < 6 by omega) (by decide)) c52
        refine z_aload_n dX4_readFactor_55 rfl ?_
        refine z_aload_n dX4_readFactor_56 rfl ?_
        refine s_geti f_Reader_19 dX4_readFactor_57 (by assumption) rfl ?_
        rw [e2]
        refine n_callV0 l_Reader_69 (C_Reader_blame hT h0) hT.1 dX4_readFactor_60 rfl rfl (Nat.le_of_ble_eq_true rfl) (rrm (by omega) (by decide)) (fun S60 q60 => ?_)
        refine z_goto 159 dX4_readFactor_63 (by decide) ?_
        refine fin _ _ _ (wk q60.1) ?_
        rw [pFac_1 hf ⟨hn, hd0⟩]
        exact rP_mv hd h q60.1 q60.2 hl (fun _ => hf)
    have k38 : zW G m_Reader_readFactor (zRm (D) 0 0) F 0 0 38 [some (.ref a), some (.ref q), some (.int (nI (6 - d))), some (.int (zo (isW tx L s.p 2))), z4] [.int (zo (decide (sgn tx L s.p = 40)))] (zhp sh S) sz := by
      refine z_istore (lv' := [_, _, _, _, _]) dX4_readFactor_38 (by decide) rfl ?_
      refine z_iload_n dX4_readFactor_40 rfl ?_
      refine z_if_ne 49 dX4_readFactor_41 (by decide) (fun c41 => ?_) (fun c41 => ?_)
      · exact k49 (Or.inl (zo_ne0.mp c41))
      · refine z_iload dX4_readFactor_44 rfl ?_
        refine z_if_eq 66 dX4_readFactor_46 (by decide) (fun c46 => ?_) (fun c46 => ?_)
        · exact k66 (fun z => by rw [zo_eq0.mp c41] at z; exact z.1.elim (fun e => by cases e) (of_decide_eq_false (zo_eq0.mp c46)))
        · exact k49 (Or.inr (of_decide_eq_true (zo_ne0.mp c46)))
    refine z_aload_n dX4_readFactor_0 rfl ?_
    refine s_geti f_Reader_22 dX4_readFactor_1 (by assumption) rfl ?_
    refine z_iconst (-1) dX4_readFactor_4 rfl ?_
    rw [e3]
    refine z_icmp_eq 9 dX4_readFactor_5 (by decide) (fun c5 => ?_) (fun c5 => ?_)
    · refine z_aload_n dX4_readFactor_9 rfl ?_
      refine z_aload_n dX4_readFactor_10 rfl ?_
      refine s_geti f_Reader_19 dX4_readFactor_11 (by assumption) rfl ?_
      refine z_ldcS 2 (by decide) rfl rfl dX4_readFactor_14 ?_
      rw [e2]
      refine s_callV1 l_Reader_61 (C_Reader_isWordAt hT h0 hL (p := s.c.1) (by omega) (i := 2) (by decide)) hT.1 dX4_readFactor_16 rfl rfl (Nat.le_of_ble_eq_true rfl) (rrm (by omega) (by decide)) ?_
      refine z_istore_n (lv' := [_, _, _, _, _]) dX4_readFactor_19 (by decide) rfl ?_
      refine z_aload_n dX4_readFactor_20 rfl ?_
      refine z_aload_n dX4_readFactor_21 rfl ?_
      refine s_geti f_Reader_19 dX4_readFactor_22 (by assumption) rfl ?_
      rw [e2]
      refine s_callV1 l_Reader_65 (C_Reader_signAt hT h0 hL (p := s.c.1) (by omega)) hT.1 dX4_readFactor_25 rfl rfl (Nat.le_of_ble_eq_true rfl) (rrm (by omega) (by decide)) ?_
      refine z_bipush 40 dX4_readFactor_28 (by decide) ?_
      refine z_icmp_ne 37 dX4_readFactor_30 (by decide) (fun c30 => ?_) (fun c30 => ?_)
      · refine z_iconst 0 dX4_readFactor_37 rfl ?_
        have k := k38
        first
          | (rw [decide_eq_true (show sgn tx L s.p = 40 from c30)] at k; exact k)
          | (rw [decide_eq_false (show ¬ sgn tx L s.p = 40 from c30)] at k; exact k)
      · refine z_iconst 1 dX4_readFactor_33 rfl ?_
        refine z_goto 38 dX4_readFactor_34 (by decide) ?_
        have k := k38
        first
          | (rw [decide_eq_true (show sgn tx L s.p = 40 from c30)] at k; exact k)
          | (rw [decide_eq_false (show ¬ sgn tx L s.p = 40 from c30)] at k; exact k)
    · exact absurd hf c5
  · skip
    refine z_aload_n dX4_readFactor_0 rfl ?_
    refine s_geti f_Reader_22 dX4_readFactor_1 (by assumption) rfl ?_
    refine z_iconst (-1) dX4_readFactor_4 rfl ?_
    rw [e3]
    refine z_icmp_eq 9 dX4_readFactor_5 (by decide) (fun c5 => ?_) (fun c5 => ?_)
    · exact absurd c5 hf
    · exact fin0 frS.rf (by rw [pFac_0 hf]; exact h) _ _
theorem C_Reader_readFactor (hT : tReader sh a) (hQ : tQuery sh q) (hd : a + 2 ≤ q ∨ q + 5 ≤ a) (hL : L ≤ 100) (hD : 10 ≤ D) (hd6 : d ≤ 6) (hDe : De + 1 ≤ D) (hDf : Df + 1 ≤ D) (hE : d ≠ 0 → FacOK G sh m_Reader_readEither a q L tx De (nI (6 - d + 1)) E) (hX : d ≠ 0 → FacOK G sh m_Reader_readFactor a q L tx Df (nI (6 - d + 1)) X) : FacOK G sh m_Reader_readFactor a q L tx D (nI (6 - d)) (pFac tx L d E X) := by
  intro S s h
  refine s_meth 2 ⟨p_Reader, rfl, Nat.le_of_ble_eq_true rfl⟩ rfl (fun sz => ?_)
  refine L_factor hT hQ hd hL hD hd6 hDe hDf hE hX h (fun S' z3 z4 g1 g2 => ?_) (fun g1 g2 z3 z4 => ?_) none none
  · refine z_return dX4_readFactor_159 rfl ⟨Nat.le_refl _, Nat.le_refl _⟩ ?_
    exact ⟨rfl, _, rfl, rfl, g1, g2⟩
  · refine z_return dX4_readFactor_8 rfl ⟨Nat.le_refl _, Nat.le_refl _⟩ ?_
    exact ⟨rfl, _, rfl, rfl, g1, g2⟩
theorem C_pF (hT : tReader sh a) (hQ : tQuery sh q) (hd : a + 2 ≤ q ∨ q + 5 ≤ a) (hL : L ≤ 100) : ∀ d, d ≤ 6 → FacOK G sh m_Reader_readFactor a q L tx (10 + 3 * d) (nI (6 - d)) (pF tx L d)
  | 0, h => C_Reader_readFactor (De := 0) (Df := 0) hT hQ hd hL (by decide) h (by decide) (by decide) (fun e => absurd rfl e) (fun e => absurd rfl e)
  | d + 1, h => by
    have ih := C_pF (d := d) hT hQ hd hL (by omega)
    rw [show 6 - d = 6 - (d + 1) + 1 by omega] at ih
    exact C_Reader_readFactor hT hQ hd hL (by omega) h (De := 10 + 3 * d + 1 + 1) (Df := 10 + 3 * d) (by omega) (by omega) (fun _ => C_Reader_readEither hT hQ hd hL (by omega) ih) (fun _ => ih)
theorem C_Reader_readInto (hT : tReader sh a) (hQ : tQuery sh q) (hd : a + 2 ≤ q ∨ q + 5 ≤ a) (hL : L ≤ 100) (h1 : zi S a 1 = nI L) (h2 : ∀ i, i < L → za S (a + 1) i = tx i) : zN G m_Reader_readInto 31 sh [.ref a, .ref q] S (some (.int (pAll tx L).f)) (fun S' => frS S (inRQ a q) S' ∧ rP S' a q L tx (pAll tx L)) := by
  have h9 := C_Reader_readEither hT hQ hd hL (by decide) (C_pF (G := G) (tx := tx) hT hQ hd hL 6 (by decide))
  obtain ⟨t, ht⟩ : ∃ t, t = pE tx L (pF tx L 6) (0, -1, 0, fun _ => (0, 0, 0, 0, 0, 0)) := ⟨_, rfl⟩
  have hpa : pAll tx L = if t.p < L then psC (cBlf tx L t.c) t else t := by rw [ht]; rfl
  refine s_meth 0 ⟨p_Reader, rfl, Nat.le_of_ble_eq_true rfl⟩ rfl (fun sz => ?_)
  refine z_aload_n dX4_readInto_0 rfl ?_
  refine z_iconst 0 dX4_readInto_1 rfl ?_
  refine s_puti f_Reader_25 dX4_readInto_2 hQ.1 rfl ⟨rfl, rfl⟩ ?_
  refine z_aload_n dX4_readInto_5 rfl ?_
  refine z_iconst 0 dX4_readInto_6 rfl ?_
  refine s_puti f_Reader_19 dX4_readInto_7 hT.1 rfl ⟨rfl, rfl⟩ ?_
  refine z_aload_n dX4_readInto_10 rfl ?_
  refine z_iconst (-1) dX4_readInto_11 rfl ?_
  refine s_puti f_Reader_22 dX4_readInto_12 hT.1 rfl ⟨rfl, rfl⟩ ?_
  refine z_gen (fun S15 e15 => ?_)
  have f15 : frS S (inRQ a q) S15 := by
    rw [e15]
    exact ((frS.seti (Or.inr ⟨by omega, by omega⟩)).trans (frS.seti (Or.inl rfl))).trans (frS.seti (Or.inl rfl))
  have r15 : rP S15 a q L tx (0, -1, 0, fun _ => (0, 0, 0, 0, 0, 0)) := by
    rw [e15]
    refine ⟨⟨?_, h2, ?_, zup_same⟩, Nat.zero_le _, 0, by decide, ?_, fun _ _ => ⟨rfl, ?_, fun i hi => absurd hi (Nat.not_lt_zero _)⟩⟩
    · exact ((zup_ne (by omega)).trans ((zup_ne (by omega)).trans (zup_ne (by omega)))).trans h1
    · exact (zup_ne (by omega)).trans zup_same
    · exact (zup_ne (by omega)).trans ((zup_ne (by omega)).trans zup_same)
    · exact (zup_ne (by omega)).trans ((zup_ne (by omega)).trans zup_same)
  clear e15
  refine z_aload_n dX4_readInto_15 rfl ?_
  refine z_aload_n dX4_readInto_16 rfl ?_
  refine z_iconst 0 dX4_readInto_17 rfl ?_
  refine n_callV0 l_Reader_30 (h9 _ _ r15) hT.1 dX4_readInto_18 rfl rfl (Nat.le_of_ble_eq_true rfl) (rrm (by omega) (by decide)) (fun S18 q18 => ?_)
  rw [← ht] at q18
  have hl : t.c.1 ≤ L := q18.2.2.1
  have e2 : zi S18 a 2 = nI t.c.1 := q18.2.1.2.2.1
  have e1 : zi S18 a 1 = nI L := q18.2.1.1
  refine z_aload_n dX4_readInto_21 rfl ?_
  refine s_geti f_Reader_19 dX4_readInto_22 hT.1 rfl ?_
  refine z_aload_n dX4_readInto_25 rfl ?_
  refine s_geti f_Reader_15 dX4_readInto_26 hT.1 rfl ?_
  refine z_icmp_ge 36 dX4_readInto_29 (by decide) (fun c29 => ?_) (fun c29 => ?_)
  · rw [e1, e2] at c29
    have ep : pAll tx L = t := hpa.trans (if_neg (Nat.not_lt.mpr ((nI_leI (by omega) (by omega)).mp c29)))
    rw [ep]
    refine z_aload_n dX4_readInto_36 rfl ?_
    refine s_geti f_Reader_22 dX4_readInto_37 hT.1 rfl ?_
    refine z_ireturn dX4_readInto_40 rfl rfl ⟨Nat.le_refl _, Nat.le_refl _⟩ ?_
    first
      | exact ⟨rfl, _, rfl, congrArg (fun x => some (Value.int x)) q33.2.2.2.2, f15.trans (q18.1.trans (q33.1.weaken (fun b e => Or.inl e))), rP_mv hd q18.2 q33.1 q33.2 ((cBlf_k _).1 hl).2 (cBlf_k (tx := tx) (L := L) _).back⟩
      | exact ⟨rfl, _, rfl, congrArg (fun x => some (Value.int x)) q18.2.1.2.2.2, f15.trans q18.1, q18.2⟩
      | skip
  · rw [e1, e2] at c29
    have ep : pAll tx L = psC (cBlf tx L t.c) t := hpa.trans (if_pos (Nat.lt_of_not_le (fun z => c29 ((nI_leI (by omega) (by omega)).mpr z))))
    refine z_aload_n dX4_readInto_32 rfl ?_
    refine n_callV0 l_Reader_34 (C_Reader_blameWhat hT q18.2.1 hL (by omega)) hT.1 dX4_readInto_33 rfl rfl (Nat.le_of_ble_eq_true rfl) (rrm (by omega) (by decide)) (fun S33 q33 => ?_)
    rw [ep]
    refine z_aload_n dX4_readInto_36 rfl ?_
    refine s_geti f_Reader_22 dX4_readInto_37 hT.1 rfl ?_
    refine z_ireturn dX4_readInto_40 rfl rfl ⟨Nat.le_refl _, Nat.le_refl _⟩ ?_
    first
      | exact ⟨rfl, _, rfl, congrArg (fun x => some (Value.int x)) q33.2.2.2.2, f15.trans (q18.1.trans (q33.1.weaken (fun b e => Or.inl e))), rP_mv hd q18.2 q33.1 q33.2 ((cBlf_k _).1 hl).2 (cBlf_k (tx := tx) (L := L) _).back⟩
      | exact ⟨rfl, _, rfl, congrArg (fun x => some (Value.int x)) q18.2.1.2.2.2, f15.trans q18.1, q18.2⟩
      | skip
end READ5

