/-! ===== constructors: the small ones, rows, work, states ===== -/
section CT
variable {G : zG}
abbrev zI (G : zG) (M : zM) (d mc ms n : Nat) (As : List Value) (dfl : zE) (L : Nat → List zE) : Prop := ∀ (ah : zH) (y : Nat), zC G M d mc ms (.ref y :: As) (zls ah y [dfl]) (y + 1) (zQe none (zls ah y (L y)) (y + n))
theorem I_Bits : zI G m_Bits_init 1 0 0 1 [] (.inr (0, f_dBits)) (fun _ => [eB]) := by
  intro ah y
  refine z_meth 0 ⟨p_Bits, rfl, Nat.le_of_ble_eq_true rfl⟩ rfl ?_
  refine z_aload_n dX0_init_0 rfl ?_
  refine z_objInit o_Bits dX0_init_1 ⟨by decide, Nat.le_of_ble_eq_true rfl⟩ ?_
  refine z_aload_n dX0_init_4 rfl ?_
  refine z_lconst 0 dX0_init_5 (by decide) ?_
  refine i_putf f_Bits_9 dX0_init_6 (Nat.le_of_ble_eq_true rfl) ⟨rfl, rfl⟩ ?_
  refine z_aload_n dX0_init_9 rfl ?_
  refine z_lconst 0 dX0_init_10 (by decide) ?_
  refine i_putf f_Bits_15 dX0_init_11 (Nat.le_of_ble_eq_true rfl) ⟨rfl, rfl⟩ ?_
  refine z_return dX0_init_14 rfl ⟨Nat.le_refl _, Nat.le_refl _⟩ ?_
  exact ⟨rfl, rfl, rfl⟩
theorem I_Pairs {n : Nat} (hn : n ≤ 10) : zI G m_Pairs_init 1 2 20 3 [.int (nI n)] (.inr (2, f_dPairs)) (fun y => LPairs y n) := by
  intro ah y
  have hc : ¬ nI n < 0 ∧ (nI n).toNatClampNeg = n := ⟨fun q => absurd (nI_pos' (n := n) (by omega)) (Int32.not_le.mpr q), nI_clamp (by omega)⟩
  refine z_meth 0 ⟨p_Pairs, rfl, Nat.le_of_ble_eq_true rfl⟩ rfl ?_
  refine z_aload_n dX2_init_0 rfl ?_
  refine z_objInit o_Pairs dX2_init_1 ⟨by decide, Nat.le_of_ble_eq_true rfl⟩ ?_
  refine z_aload_n dX2_init_4 rfl ?_
  refine z_iconst 0 dX2_init_5 rfl ?_
  refine i_putf f_Pairs_9 dX2_init_6 (Nat.le_of_ble_eq_true rfl) ⟨rfl, rfl⟩ ?_
  refine z_aload_n dX2_init_9 rfl ?_
  refine z_iload_n dX2_init_10 rfl ?_
  refine i_putF F_Pairs_15 dX2_init_11 rfl (Nat.le_of_ble_eq_true rfl) ⟨rfl, rfl⟩ ?_
  refine z_aload_n dX2_init_14 rfl ?_
  refine z_iload_n dX2_init_15 rfl ?_
  refine i_newa (atype := .int) (k := 0) (N := n) (a0 := (n, .inl (fun _ => 0))) a_int ⟨by decide, rfl⟩ (fun _ => rfl) hc (by show n * 4 ≤ 536870912; omega) dX2_init_16 ⟨by decide, by show 0 + n ≤ 20; omega⟩ (by simp only [List.length_cons, List.length_append, List.length_nil, List.length_replicate, List.length_set, n_Pairs, n_Query, n_Tape, n_Reader, n_Rows, n_RowI, n_Work, n_WorkI, n_Groups, n_State, n_Qs, n_Ts, n_RCi] <;> omega) ?_
  refine i_putF F_Pairs_18 dX2_init_18 rfl (Nat.le_of_ble_eq_true rfl) ⟨rfl, rfl⟩ ?_
  refine z_aload_n dX2_init_21 rfl ?_
  refine z_iload_n dX2_init_22 rfl ?_
  refine i_newa (atype := .int) (k := 0) (N := n) (a0 := (n, .inl (fun _ => 0))) a_int ⟨by decide, rfl⟩ (fun _ => rfl) hc (by show n * 4 ≤ 536870912; omega) dX2_init_23 ⟨by decide, by show 0 + n + n ≤ 20; omega⟩ (by simp only [List.length_cons, List.length_append, List.length_nil, List.length_replicate, List.length_set, n_Pairs, n_Query, n_Tape, n_Reader, n_Rows, n_RowI, n_Work, n_WorkI, n_Groups, n_State, n_Qs, n_Ts, n_RCi] <;> omega) ?_
  refine i_putF F_Pairs_22 dX2_init_25 rfl (Nat.le_of_ble_eq_true rfl) ⟨rfl, rfl⟩ ?_
  refine z_return dX2_init_28 rfl ⟨by decide, by show 0 + n + n ≤ 20; omega⟩ ?_
  exact ⟨rfl, rfl, rfl⟩
theorem I_Query : zI G m_Query_init 1 4 200 5 [] (.inr (3, f_dQuery)) LQuery := by
  intro ah y
  refine z_meth 0 ⟨p_Query, rfl, Nat.le_of_ble_eq_true rfl⟩ rfl ?_
  refine z_aload_n dX3_init_0 rfl ?_
  refine z_objInit o_Query dX3_init_1 ⟨by decide, Nat.le_of_ble_eq_true rfl⟩ ?_
  refine z_aload_n dX3_init_4 rfl ?_
  refine z_bipush 50 dX3_init_5 (by decide) ?_
  refine i_newa (atype := .byte) (k := 2) (N := 50) (a0 := (50, .inl (fun _ => 0))) a_byte ⟨by decide, rfl⟩ (fun _ => rfl) ⟨by decide, by decide⟩ (by decide) dX3_init_7 (by decide) (by simp only [List.length_cons, List.length_append, List.length_nil, List.length_replicate, List.length_set, n_Pairs, n_Query, n_Tape, n_Reader, n_Rows, n_RowI, n_Work, n_WorkI, n_Groups, n_State, n_Qs, n_Ts, n_RCi] <;> omega) ?_
  refine i_putF F_Query_9 dX3_init_9 rfl (Nat.le_of_ble_eq_true rfl) ⟨rfl, rfl⟩ ?_
  refine z_aload_n dX3_init_12 rfl ?_
  refine z_bipush 50 dX3_init_13 (by decide) ?_
  refine i_newa (atype := .byte) (k := 2) (N := 50) (a0 := (50, .inl (fun _ => 0))) a_byte ⟨by decide, rfl⟩ (fun _ => rfl) ⟨by decide, by decide⟩ (by decide) dX3_init_15 (by decide) (by simp only [List.length_cons, List.length_append, List.length_nil, List.length_replicate, List.length_set, n_Pairs, n_Query, n_Tape, n_Reader, n_Rows, n_RowI, n_Work, n_WorkI, n_Groups, n_State, n_Qs, n_Ts, n_RCi] <;> omega) ?_
  refine i_putF F_Query_15 dX3_init_17 rfl (Nat.le_of_ble_eq_true rfl) ⟨rfl, rfl⟩ ?_
  refine z_aload_n dX3_init_20 rfl ?_
  refine z_bipush 50 dX3_init_21 (by decide) ?_
  refine i_newa (atype := .byte) (k := 2) (N := 50) (a0 := (50, .inl (fun _ => 0))) a_byte ⟨by decide, rfl⟩ (fun _ => rfl) ⟨by decide, by decide⟩ (by decide) dX3_init_23 (by decide) (by simp only [List.length_cons, List.length_append, List.length_nil, List.length_replicate, List.length_set, n_Pairs, n_Query, n_Tape, n_Reader, n_Rows, n_RowI, n_Work, n_WorkI, n_Groups, n_State, n_Qs, n_Ts, n_RCi] <;> omega) ?_
  refine i_putF F_Query_18 dX3_init_25 rfl (Nat.le_of_ble_eq_true rfl) ⟨rfl, rfl⟩ ?_
  refine z_aload_n dX3_init_28 rfl ?_
  refine z_bipush 50 dX3_init_29 (by decide) ?_
  refine i_newa (atype := .byte) (k := 2) (N := 50) (a0 := (50, .inl (fun _ => 0))) a_byte ⟨by decide, rfl⟩ (fun _ => rfl) ⟨by decide, by decide⟩ (by decide) dX3_init_31 (by decide) (by simp only [List.length_cons, List.length_append, List.length_nil, List.length_replicate, List.length_set, n_Pairs, n_Query, n_Tape, n_Reader, n_Rows, n_RowI, n_Work, n_WorkI, n_Groups, n_State, n_Qs, n_Ts, n_RCi] <;> omega) ?_
  refine i_putF F_Query_21 dX3_init_33 rfl (Nat.le_of_ble_eq_true rfl) ⟨rfl, rfl⟩ ?_
  refine z_aload_n dX3_init_36 rfl ?_
  refine z_iconst 0 dX3_init_37 rfl ?_
  refine i_putf f_Query_24 dX3_init_38 (Nat.le_of_ble_eq_true rfl) ⟨rfl, rfl⟩ ?_
  refine z_return dX3_init_41 rfl ⟨by decide, by decide⟩ ?_
  exact ⟨rfl, rfl, rfl⟩
theorem I_Tape : zI G m_Tape_init 1 1 60 2 [] (.inr (7, f_dTape)) LTape := by
  intro ah y
  refine z_meth 0 ⟨p_Tape, rfl, Nat.le_of_ble_eq_true rfl⟩ rfl ?_
  refine z_aload_n dX7_init_0 rfl ?_
  refine z_objInit o_Tape dX7_init_1 ⟨by decide, Nat.le_of_ble_eq_true rfl⟩ ?_
  refine z_aload_n dX7_init_4 rfl ?_
  refine z_bipush 60 dX7_init_5 (by decide) ?_
  refine i_newa (atype := .long) (k := 1) (N := 60) (a0 := (60, .inr (.inl (fun _ => 0)))) a_long ⟨by decide, rfl⟩ (fun _ => rfl) ⟨by decide, by decide⟩ (by decide) dX7_init_7 (by decide) (by simp only [List.length_cons, List.length_append, List.length_nil, List.length_replicate, List.length_set, n_Pairs, n_Query, n_Tape, n_Reader, n_Rows, n_RowI, n_Work, n_WorkI, n_Groups, n_State, n_Qs, n_Ts, n_RCi] <;> omega) ?_
  refine i_putF F_Tape_9 dX7_init_9 rfl (Nat.le_of_ble_eq_true rfl) ⟨rfl, rfl⟩ ?_
  refine z_aload_n dX7_init_12 rfl ?_
  refine z_iconst (-1) dX7_init_13 rfl ?_
  refine i_putf f_Tape_15 dX7_init_14 (Nat.le_of_ble_eq_true rfl) ⟨rfl, rfl⟩ ?_
  refine z_aload_n dX7_init_17 rfl ?_
  refine z_iconst 0 dX7_init_18 rfl ?_
  refine i_putf f_Tape_19 dX7_init_19 (Nat.le_of_ble_eq_true rfl) ⟨rfl, rfl⟩ ?_
  refine z_return dX7_init_22 rfl ⟨by decide, by decide⟩ ?_
  exact ⟨rfl, rfl, rfl⟩
theorem I_Reader : zI G m_Reader_init 1 1 100 2 [] (.inr (4, f_dReader)) LReader := by
  intro ah y
  refine z_meth 0 ⟨p_Reader, rfl, Nat.le_of_ble_eq_true rfl⟩ rfl ?_
  refine z_aload_n dX4_init_0 rfl ?_
  refine z_objInit o_Reader dX4_init_1 ⟨by decide, Nat.le_of_ble_eq_true rfl⟩ ?_
  refine z_aload_n dX4_init_4 rfl ?_
  refine z_bipush 100 dX4_init_5 (by decide) ?_
  refine i_newa (atype := .byte) (k := 2) (N := 100) (a0 := (100, .inl (fun _ => 0))) a_byte ⟨by decide, rfl⟩ (fun _ => rfl) ⟨by decide, by decide⟩ (by decide) dX4_init_7 (by decide) (by simp only [List.length_cons, List.length_append, List.length_nil, List.length_replicate, List.length_set, n_Pairs, n_Query, n_Tape, n_Reader, n_Rows, n_RowI, n_Work, n_WorkI, n_Groups, n_State, n_Qs, n_Ts, n_RCi] <;> omega) ?_
  refine i_putF F_Reader_9 dX4_init_9 rfl (Nat.le_of_ble_eq_true rfl) ⟨rfl, rfl⟩ ?_
  refine z_aload_n dX4_init_12 rfl ?_
  refine z_iconst 0 dX4_init_13 rfl ?_
  refine i_putf f_Reader_15 dX4_init_14 (Nat.le_of_ble_eq_true rfl) ⟨rfl, rfl⟩ ?_
  refine z_aload_n dX4_init_17 rfl ?_
  refine z_iconst 0 dX4_init_18 rfl ?_
  refine i_putf f_Reader_19 dX4_init_19 (Nat.le_of_ble_eq_true rfl) ⟨rfl, rfl⟩ ?_
  refine z_aload_n dX4_init_22 rfl ?_
  refine z_iconst (-1) dX4_init_23 rfl ?_
  refine i_putf f_Reader_22 dX4_init_24 (Nat.le_of_ble_eq_true rfl) ⟨rfl, rfl⟩ ?_
  refine z_return dX4_init_27 rfl ⟨by decide, by decide⟩ ?_
  exact ⟨rfl, rfl, rfl⟩
theorem I_Groups : zI G m_Groups_init 2 2 18 3 [] (.inr (1, f_dGroups)) LGroups := by
  intro ah y
  refine z_meth 0 ⟨p_Groups, rfl, Nat.le_of_ble_eq_true rfl⟩ rfl ?_
  refine z_aload_n dX1_init_0 rfl ?_
  refine z_objInit o_Groups dX1_init_1 ⟨by decide, Nat.le_of_ble_eq_true rfl⟩ ?_
  refine z_aload_n dX1_init_4 rfl ?_
  refine i_new d_Bits n_Groups_9 dX1_init_5 (by decide) ?_
  refine z_dup dX1_init_8 rfl ?_
  refine z_callI l_Groups_11 (I_Bits _ _) dX1_init_9 rfl rfl (Nat.le_of_ble_eq_true rfl) ⟨⟨by decide, by decide⟩, by decide, by decide⟩ (fun r9 h9 z9 q9 => ?_)
  obtain ⟨rfl, rfl, rfl⟩ := q9
  refine z_heap (zls_apc (by simp only [List.length_cons, List.length_append, List.length_nil, List.length_replicate, List.length_set, n_Pairs, n_Query, n_Tape, n_Reader, n_Rows, n_RowI, n_Work, n_WorkI, n_Groups, n_State, n_Qs, n_Ts, n_RCi] <;> omega)) ?_
  refine i_putF F_Groups_12 dX1_init_12 rfl (Nat.le_of_ble_eq_true rfl) ⟨rfl, rfl⟩ ?_
  refine z_aload_n dX1_init_15 rfl ?_
  refine z_bipush 16 dX1_init_16 (by decide) ?_
  refine i_newa (atype := .int) (k := 0) (N := 16) (a0 := (16, .inl (fun _ => 0))) a_int ⟨by decide, rfl⟩ (fun _ => rfl) ⟨by decide, by decide⟩ (by decide) dX1_init_18 (by decide) (by simp only [List.length_cons, List.length_append, List.length_nil, List.length_replicate, List.length_set, n_Pairs, n_Query, n_Tape, n_Reader, n_Rows, n_RowI, n_Work, n_WorkI, n_Groups, n_State, n_Qs, n_Ts, n_RCi] <;> omega) ?_
  refine i_putF F_Groups_18 dX1_init_20 rfl (Nat.le_of_ble_eq_true rfl) ⟨rfl, rfl⟩ ?_
  refine z_aload_n dX1_init_23 rfl ?_
  refine z_iconst 0 dX1_init_24 rfl ?_
  refine i_putf f_Groups_22 dX1_init_25 (Nat.le_of_ble_eq_true rfl) ⟨rfl, rfl⟩ ?_
  refine z_return dX1_init_28 rfl ⟨by decide, by decide⟩ ?_
  exact ⟨rfl, rfl, rfl⟩
theorem L_Rows {ah : zH} {y : Nat} : ∀ n i, i + n = 80 → zW G m_Rows_init (zRm 2 81 240) (zFm G (zQe none (zls ah y (LRows y)) (y + 82)) 81 240) (1 + i) (80 + 2 * i) 20 [some (.ref y), some (.int (nI i))] [] (zls ah y (LRowI y i)) (y + 2 + i) := by
  intro n
  induction n with
  | zero =>
    intro i hi
    have e : i = 80 := by omega
    subst e
    refine z_iload_n dX5_init_20 rfl ?_
    refine z_bipush 80 dX5_init_21 (by decide) ?_
    refine z_icmp_ge 45 dX5_init_23 (by decide) (fun c23 => ?_) (fun c23 => ?_)
    · refine z_return dX5_init_45 rfl ⟨by decide, by decide⟩ ?_
      exact ⟨rfl, rfl, rfl⟩
    · exact absurd (show nI 80 ≤ nI 80 from Int32.le_refl _) c23
  | succ n ih =>
    intro i hi
    have hC : (nI i).toNatClampNeg = i := nI_clamp (by omega)
    refine z_iload_n dX5_init_20 rfl ?_
    refine z_bipush 80 dX5_init_21 (by decide) ?_
    refine z_icmp_ge 45 dX5_init_23 (by decide) (fun c23 => ?_) (fun c23 => ?_)
    · exact absurd (nI_lt (show i < 80 by omega) (by decide)) (Int32.not_lt.mpr c23)
    · unfold LRowI
      refine z_aload_n dX5_init_26 rfl ?_
      refine i_getf f_Rows_11 dX5_init_27 rfl ?_
      refine z_iload_n dX5_init_30 rfl ?_
      refine i_new d_Bits n_Rows_9 dX5_init_31 ⟨by show 1 + i + 1 ≤ 81; omega, by show 80 + 2 * i + 2 ≤ 240; omega⟩ ?_
      refine z_dup dX5_init_34 rfl ?_
      refine z_callI l_Rows_21 (I_Bits _ _) dX5_init_35 rfl rfl (Nat.le_of_ble_eq_true rfl) ⟨⟨by decide, by decide⟩, by show 1 + i + 1 + 0 ≤ 81; omega, by show 80 + 2 * i + 2 + 0 ≤ 240; omega⟩ (fun r35 h35 z35 q35 => ?_)
      obtain ⟨rfl, rfl, rfl⟩ := q35
      refine z_aast (k := 3) (C := RX0) (ci := 0) (by decide) ⟨rfl, rfl⟩ dX5_init_38 ((zls_lo (by omega)).trans (zls_get (i := 1) rfl)) zls_hd (by first | exact vp_in_nI (by omega) (by omega)) ?_
      refine z_heap (zls_aas (j := 1) rfl (Nat.le_of_ble_eq_true rfl) (by simp only [List.length_cons, List.length_append, List.length_nil, List.length_replicate, List.length_set, n_Pairs, n_Query, n_Tape, n_Reader, n_Rows, n_RowI, n_Work, n_WorkI, n_Groups, n_State, n_Qs, n_Ts, n_RCi] <;> omega)) ?_
      refine z_iinc (lv' := [_, _]) 1 dX5_init_39 rfl (by decide) rfl rfl ?_
      refine z_goto 20 dX5_init_42 (by decide) ?_
      rw [hC]
      refine z_eq rfl ?_ rfl ?_ (ih (i + 1) (by omega))
      · rw [nI_1]
      · unfold LRowI
        rw [List.replicate_succ', ← fRI_up (b := y + 2) (d := 1) (i := i), Nat.one_mul]
        rfl
theorem I_Rows : zI G m_Rows_init 2 81 240 82 [] (.inr (5, f_dRows)) LRows := by
  intro ah y
  refine z_meth 1 ⟨p_Rows, rfl, Nat.le_of_ble_eq_true rfl⟩ rfl ?_
  refine z_aload_n dX5_init_0 rfl ?_
  refine z_objInit o_Rows dX5_init_1 ⟨by decide, Nat.le_of_ble_eq_true rfl⟩ ?_
  refine z_aload_n dX5_init_4 rfl ?_
  refine z_bipush 80 dX5_init_5 (by decide) ?_
  refine i_anew (k := 3) (N := 80) N_Rows_9 ⟨by decide, rfl⟩ ⟨by decide, by decide⟩ (by decide) dX5_init_7 (by decide) (by simp only [List.length_cons, List.length_append, List.length_nil, List.length_replicate, List.length_set, n_Pairs, n_Query, n_Tape, n_Reader, n_Rows, n_RowI, n_Work, n_WorkI, n_Groups, n_State, n_Qs, n_Ts, n_RCi] <;> omega) ?_
  refine i_putF F_Rows_11 dX5_init_10 rfl (Nat.le_of_ble_eq_true rfl) ⟨rfl, rfl⟩ ?_
  refine z_aload_n dX5_init_13 rfl ?_
  refine z_iconst 0 dX5_init_14 rfl ?_
  refine i_putf f_Rows_17 dX5_init_15 (Nat.le_of_ble_eq_true rfl) ⟨rfl, rfl⟩ ?_
  refine z_iconst 0 dX5_init_18 rfl ?_
  refine z_istore_n (lv' := [_, _]) dX5_init_19 (by decide) rfl ?_
  refine z_eq rfl rfl rfl ?_ (L_Rows 80 0 rfl)
  unfold LRowI
  rw [← fRI_0]
  rfl
theorem L_Work {ah : zH} {y : Nat} : ∀ n i, i + n = 15 → zW G m_Work_init (zRm 2 18 75) (zFm G (zQe none (zls ah y (LWork y)) (y + 19)) 18 75) (3 + i) (45 + 2 * i) 36 [some (.ref y), some (.int (nI i))] [] (zls ah y (LWorkI y i)) (y + 4 + i) := by
  intro n
  induction n with
  | zero =>
    intro i hi
    have e : i = 15 := by omega
    subst e
    refine z_iload_n dX8_init_36 rfl ?_
    refine z_bipush 15 dX8_init_37 (by decide) ?_
    refine z_icmp_ge 61 dX8_init_39 (by decide) (fun c39 => ?_) (fun c39 => ?_)
    · refine z_return dX8_init_61 rfl ⟨by decide, by decide⟩ ?_
      exact ⟨rfl, rfl, rfl⟩
    · exact absurd (show nI 15 ≤ nI 15 from Int32.le_refl _) c39
  | succ n ih =>
    intro i hi
    have hC : (nI i).toNatClampNeg = i := nI_clamp (by omega)
    refine z_iload_n dX8_init_36 rfl ?_
    refine z_bipush 15 dX8_init_37 (by decide) ?_
    refine z_icmp_ge 61 dX8_init_39 (by decide) (fun c39 => ?_) (fun c39 => ?_)
    · exact absurd (nI_lt (show i < 15 by omega) (by decide)) (Int32.not_lt.mpr c39)
    · unfold LWorkI
      refine z_aload_n dX8_init_42 rfl ?_
      refine i_getf f_Work_11 dX8_init_43 rfl ?_
      refine z_iload_n dX8_init_46 rfl ?_
      refine i_new d_Bits n_Work_9 dX8_init_47 ⟨by show 3 + i + 1 ≤ 18; omega, by show 45 + 2 * i + 2 ≤ 75; omega⟩ ?_
      refine z_dup dX8_init_50 rfl ?_
      refine z_callI l_Work_28 (I_Bits _ _) dX8_init_51 rfl rfl (Nat.le_of_ble_eq_true rfl) ⟨⟨by decide, by decide⟩, by show 3 + i + 1 + 0 ≤ 18; omega, by show 45 + 2 * i + 2 + 0 ≤ 75; omega⟩ (fun r51 h51 z51 q51 => ?_)
      obtain ⟨rfl, rfl, rfl⟩ := q51
      refine z_aast (k := 3) (C := RX0) (ci := 0) (by decide) ⟨rfl, rfl⟩ dX8_init_54 ((zls_lo (by omega)).trans (zls_get (i := 1) rfl)) zls_hd (by first | exact vp_in_nI (by omega) (by omega)) ?_
      refine z_heap (zls_aas (j := 1) rfl (Nat.le_of_ble_eq_true rfl) (by simp only [List.length_cons, List.length_append, List.length_nil, List.length_replicate, List.length_set, n_Pairs, n_Query, n_Tape, n_Reader, n_Rows, n_RowI, n_Work, n_WorkI, n_Groups, n_State, n_Qs, n_Ts, n_RCi] <;> omega)) ?_
      refine z_iinc (lv' := [_, _]) 1 dX8_init_55 rfl (by decide) rfl rfl ?_
      refine z_goto 36 dX8_init_58 (by decide) ?_
      rw [hC]
      refine z_eq rfl ?_ rfl ?_ (ih (i + 1) (by omega))
      · rw [nI_1]
      · unfold LWorkI
        rw [List.replicate_succ', ← fRI_up (b := y + 4) (d := 1) (i := i), Nat.one_mul]
        rfl
theorem I_Work : zI G m_Work_init 2 18 75 19 [] (.inr (8, f_dWork)) LWork := by
  intro ah y
  refine z_meth 1 ⟨p_Work, rfl, Nat.le_of_ble_eq_true rfl⟩ rfl ?_
  refine z_aload_n dX8_init_0 rfl ?_
  refine z_objInit o_Work dX8_init_1 ⟨by decide, Nat.le_of_ble_eq_true rfl⟩ ?_
  refine z_aload_n dX8_init_4 rfl ?_
  refine z_bipush 15 dX8_init_5 (by decide) ?_
  refine i_anew (k := 3) (N := 15) N_Work_9 ⟨by decide, rfl⟩ ⟨by decide, by decide⟩ (by decide) dX8_init_7 (by decide) (by simp only [List.length_cons, List.length_append, List.length_nil, List.length_replicate, List.length_set, n_Pairs, n_Query, n_Tape, n_Reader, n_Rows, n_RowI, n_Work, n_WorkI, n_Groups, n_State, n_Qs, n_Ts, n_RCi] <;> omega) ?_
  refine i_putF F_Work_11 dX8_init_10 rfl (Nat.le_of_ble_eq_true rfl) ⟨rfl, rfl⟩ ?_
  refine z_aload_n dX8_init_13 rfl ?_
  refine z_bipush 15 dX8_init_14 (by decide) ?_
  refine i_newa (atype := .int) (k := 0) (N := 15) (a0 := (15, .inl (fun _ => 0))) a_int ⟨by decide, rfl⟩ (fun _ => rfl) ⟨by decide, by decide⟩ (by decide) dX8_init_16 (by decide) (by simp only [List.length_cons, List.length_append, List.length_nil, List.length_replicate, List.length_set, n_Pairs, n_Query, n_Tape, n_Reader, n_Rows, n_RowI, n_Work, n_WorkI, n_Groups, n_State, n_Qs, n_Ts, n_RCi] <;> omega) ?_
  refine i_putF F_Work_17 dX8_init_18 rfl (Nat.le_of_ble_eq_true rfl) ⟨rfl, rfl⟩ ?_
  refine z_aload_n dX8_init_21 rfl ?_
  refine z_bipush 15 dX8_init_22 (by decide) ?_
  refine i_newa (atype := .int) (k := 0) (N := 15) (a0 := (15, .inl (fun _ => 0))) a_int ⟨by decide, rfl⟩ (fun _ => rfl) ⟨by decide, by decide⟩ (by decide) dX8_init_24 (by decide) (by simp only [List.length_cons, List.length_append, List.length_nil, List.length_replicate, List.length_set, n_Pairs, n_Query, n_Tape, n_Reader, n_Rows, n_RowI, n_Work, n_WorkI, n_Groups, n_State, n_Qs, n_Ts, n_RCi] <;> omega) ?_
  refine i_putF F_Work_21 dX8_init_26 rfl (Nat.le_of_ble_eq_true rfl) ⟨rfl, rfl⟩ ?_
  refine z_aload_n dX8_init_29 rfl ?_
  refine z_iconst 0 dX8_init_30 rfl ?_
  refine i_putf f_Work_24 dX8_init_31 (Nat.le_of_ble_eq_true rfl) ⟨rfl, rfl⟩ ?_
  refine z_iconst 0 dX8_init_34 rfl ?_
  refine z_istore_n (lv' := [_, _]) dX8_init_35 (by decide) rfl ?_
  refine z_eq rfl rfl rfl ?_ (L_Work 15 0 rfl)
  unfold LWorkI
  rw [← fRI_0]
  rfl
theorem I_State : zI G m_State_init 3 92 330 93 [] (.inr (6, f_dState)) LState := by
  intro ah y
  refine z_meth 0 ⟨p_State, rfl, Nat.le_of_ble_eq_true rfl⟩ rfl ?_
  refine z_aload_n dX6_init_0 rfl ?_
  refine z_objInit o_State dX6_init_1 ⟨by decide, Nat.le_of_ble_eq_true rfl⟩ ?_
  refine z_aload_n dX6_init_4 rfl ?_
  refine i_new d_Rows n_State_9 dX6_init_5 (by decide) ?_
  refine z_dup dX6_init_8 rfl ?_
  refine z_callI l_State_11 (I_Rows _ _) dX6_init_9 rfl rfl (Nat.le_of_ble_eq_true rfl) ⟨⟨by decide, by decide⟩, by decide, by decide⟩ (fun r9 h9 z9 q9 => ?_)
  obtain ⟨rfl, rfl, rfl⟩ := q9
  refine z_heap (zls_apc (by simp only [List.length_cons, List.length_append, List.length_nil, List.length_replicate, List.length_set, n_Pairs, n_Query, n_Tape, n_Reader, n_Rows, n_RowI, n_Work, n_WorkI, n_Groups, n_State, n_Qs, n_Ts, n_RCi] <;> omega)) ?_
  refine i_putF F_State_12 dX6_init_12 rfl (Nat.le_of_ble_eq_true rfl) ⟨rfl, rfl⟩ ?_
  refine z_aload_n dX6_init_15 rfl ?_
  refine z_bipush 10 dX6_init_16 (by decide) ?_
  refine i_newa (atype := .int) (k := 0) (N := 10) (a0 := (10, .inl (fun _ => 0))) a_int ⟨by decide, rfl⟩ (fun _ => rfl) ⟨by decide, by decide⟩ (by decide) dX6_init_18 (by decide) (by simp only [List.length_cons, List.length_append, List.length_nil, List.length_replicate, List.length_set, n_Pairs, n_Query, n_Tape, n_Reader, n_Rows, n_RowI, n_Work, n_WorkI, n_Groups, n_State, n_Qs, n_Ts, n_RCi] <;> omega) ?_
  refine i_putF F_State_18 dX6_init_20 rfl (Nat.le_of_ble_eq_true rfl) ⟨rfl, rfl⟩ ?_
  refine z_aload_n dX6_init_23 rfl ?_
  refine z_iconst 0 dX6_init_24 rfl ?_
  refine i_putf f_State_22 dX6_init_25 (Nat.le_of_ble_eq_true rfl) ⟨rfl, rfl⟩ ?_
  refine z_aload_n dX6_init_28 rfl ?_
  refine i_new d_Pairs n_State_26 dX6_init_29 (by decide) ?_
  refine z_dup dX6_init_32 rfl ?_
  refine z_bipush 6 dX6_init_33 (by decide) ?_
  refine z_callI l_State_28 (I_Pairs (n := 6) (by decide) _ _) dX6_init_35 rfl rfl (Nat.le_of_ble_eq_true rfl) ⟨⟨by decide, by decide⟩, by decide, by decide⟩ (fun r35 h35 z35 q35 => ?_)
  obtain ⟨rfl, rfl, rfl⟩ := q35
  refine z_heap (zls_apc (by simp only [List.length_cons, List.length_append, List.length_nil, List.length_replicate, List.length_set, n_Pairs, n_Query, n_Tape, n_Reader, n_Rows, n_RowI, n_Work, n_WorkI, n_Groups, n_State, n_Qs, n_Ts, n_RCi] <;> omega)) ?_
  refine i_putF F_State_31 dX6_init_38 rfl (Nat.le_of_ble_eq_true rfl) ⟨rfl, rfl⟩ ?_
  refine z_aload_n dX6_init_41 rfl ?_
  refine i_new d_Pairs n_State_26 dX6_init_42 (by decide) ?_
  refine z_dup dX6_init_45 rfl ?_
  refine z_bipush 10 dX6_init_46 (by decide) ?_
  refine z_callI l_State_28 (I_Pairs (n := 10) (by decide) _ _) dX6_init_48 rfl rfl (Nat.le_of_ble_eq_true rfl) ⟨⟨by decide, by decide⟩, by decide, by decide⟩ (fun r48 h48 z48 q48 => ?_)
  obtain ⟨rfl, rfl, rfl⟩ := q48
  refine z_heap (zls_apc (by simp only [List.length_cons, List.length_append, List.length_nil, List.length_replicate, List.length_set, n_Pairs, n_Query, n_Tape, n_Reader, n_Rows, n_RowI, n_Work, n_WorkI, n_Groups, n_State, n_Qs, n_Ts, n_RCi] <;> omega)) ?_
  refine i_putF F_State_35 dX6_init_51 rfl (Nat.le_of_ble_eq_true rfl) ⟨rfl, rfl⟩ ?_
  refine z_aload_n dX6_init_54 rfl ?_
  refine i_new d_Pairs n_State_26 dX6_init_55 (by decide) ?_
  refine z_dup dX6_init_58 rfl ?_
  refine z_bipush 8 dX6_init_59 (by decide) ?_
  refine z_callI l_State_28 (I_Pairs (n := 8) (by decide) _ _) dX6_init_61 rfl rfl (Nat.le_of_ble_eq_true rfl) ⟨⟨by decide, by decide⟩, by decide, by decide⟩ (fun r61 h61 z61 q61 => ?_)
  obtain ⟨rfl, rfl, rfl⟩ := q61
  refine z_heap (zls_apc (by simp only [List.length_cons, List.length_append, List.length_nil, List.length_replicate, List.length_set, n_Pairs, n_Query, n_Tape, n_Reader, n_Rows, n_RowI, n_Work, n_WorkI, n_Groups, n_State, n_Qs, n_Ts, n_RCi] <;> omega)) ?_
  refine i_putF F_State_38 dX6_init_64 rfl (Nat.le_of_ble_eq_true rfl) ⟨rfl, rfl⟩ ?_
  refine z_return dX6_init_67 rfl ⟨by decide, by decide⟩ ?_
  exact ⟨rfl, rfl, rfl⟩
end CT

