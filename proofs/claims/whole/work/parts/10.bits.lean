section BITS
variable {G : zG} {sh : Nat → Option zSh} {S : zSt} {a b j n : Nat}
theorem C_Bits_has (ha : sh a = some kB) (hj : j < 128) : zD G m_Bits_has 1 sh [.ref a, .int (nI j)] S (some (.int (zb (bt S a j)))) S := by
  have key : ∀ x : Int64, zw x (j % 64) = bt S a j → (lg_cmp ((x.toUInt64 >>> (((nI j) &&& 63).toInt64.toUInt64 &&& Int64.toUInt64 63)).toInt64 &&& 1) 0 = 0 ↔ bt S a j = false) := fun x hx => by
    rw [lgc0, has_eq x hj, hx]
  have k1 : ¬ (64 : Int32) ≤ nI j → zw (zl S a 0) (j % 64) = bt S a j := fun h => by
    rw [nI_lt64 (by omega)] at h
    unfold bt
    rw [if_pos (by omega), Nat.mod_eq_of_lt (by omega)]
  have k2 : (64 : Int32) ≤ nI j → zw (zl S a 1) (j % 64) = bt S a j := fun h => by
    rw [nI_lt64 (by omega)] at h
    unfold bt
    rw [if_neg (by omega), show j % 64 = j - 64 by omega]
  refine s_methD 2 ⟨p_Bits, rfl, Nat.le_of_ble_eq_true rfl⟩ rfl (fun sz => ?_)
  refine z_iload_n dX0_has_0 rfl ?_
  refine z_bipush 64 dX0_has_1 (by decide) ?_
  refine z_icmp_ge 13 dX0_has_3 (by decide) (fun c3 => ?_) (fun c3 => ?_)
  · refine z_aload_n dX0_has_13 rfl ?_
    refine s_getl f_Bits_15 dX0_has_14 (by assumption) rfl ?_
    refine z_lstore_n (lv' := [_, _, _, _]) dX0_has_17 (by decide) rfl ?_
    refine z_lload_n dX0_has_18 rfl ?_
    refine z_iload_n dX0_has_19 rfl ?_
    refine z_bipush 63 dX0_has_20 (by decide) ?_
    refine z_iand dX0_has_22 ?_
    refine z_lushr dX0_has_23 ?_
    refine z_lconst 1 dX0_has_24 (by decide) ?_
    refine z_land dX0_has_25 ?_
    refine z_lconst 0 dX0_has_26 (by decide) ?_
    refine z_lcmp dX0_has_27 ?_
    refine z_if_eq 35 dX0_has_28 (by decide) (fun c28 => ?_) (fun c28 => ?_)
    · refine z_iconst 0 dX0_has_35 rfl ?_
      refine z_ireturn dX0_has_36 rfl rfl ⟨Nat.le_refl _, Nat.le_refl _⟩ ?_
      exact ⟨rfl, rfl, rfl⟩
    · refine z_iconst 1 dX0_has_31 rfl ?_
      refine z_goto 36 dX0_has_32 (by decide) ?_
      refine z_ireturn dX0_has_36 rfl rfl ⟨Nat.le_refl _, Nat.le_refl _⟩ ?_
      exact ⟨rfl, rfl, rfl⟩
  · refine z_aload_n dX0_has_6 rfl ?_
    refine s_getl f_Bits_9 dX0_has_7 (by assumption) rfl ?_
    refine z_goto 17 dX0_has_10 (by decide) ?_
    refine z_lstore_n (lv' := [_, _, _, _]) dX0_has_17 (by decide) rfl ?_
    refine z_lload_n dX0_has_18 rfl ?_
    refine z_iload_n dX0_has_19 rfl ?_
    refine z_bipush 63 dX0_has_20 (by decide) ?_
    refine z_iand dX0_has_22 ?_
    refine z_lushr dX0_has_23 ?_
    refine z_lconst 1 dX0_has_24 (by decide) ?_
    refine z_land dX0_has_25 ?_
    refine z_lconst 0 dX0_has_26 (by decide) ?_
    refine z_lcmp dX0_has_27 ?_
    refine z_if_eq 35 dX0_has_28 (by decide) (fun c28 => ?_) (fun c28 => ?_)
    · refine z_iconst 0 dX0_has_35 rfl ?_
      refine z_ireturn dX0_has_36 rfl rfl ⟨Nat.le_refl _, Nat.le_refl _⟩ ?_
      exact ⟨rfl, rfl, rfl⟩
    · refine z_iconst 1 dX0_has_31 rfl ?_
      refine z_goto 36 dX0_has_32 (by decide) ?_
      refine z_ireturn dX0_has_36 rfl rfl ⟨Nat.le_refl _, Nat.le_refl _⟩ ?_
      exact ⟨rfl, rfl, rfl⟩
end BITS

