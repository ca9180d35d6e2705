/-! ===== constructors: the model ===== -/
def fTS (i : Nat) : Nat → Int32 := fun j => if j < i then -1 else 0
theorem fTS_up {i : Nat} : upd (fTS i) i (-1) = fTS (i + 1) := by
  funext j
  unfold upd fTS
  by_cases h : j = i
  · subst h
    rw [if_pos rfl, if_pos (Nat.lt_succ_self _)]
  · rw [if_neg h]
    by_cases h2 : j < i
    · rw [if_pos h2, if_pos (by omega)]
    · rw [if_neg h2, if_neg (by omega)]
theorem fTS_0 : (fun _ => 0) = fTS 0 := by
  funext j
  unfold fTS
  rw [if_neg (Nat.not_lt_zero _)]
def eMo (m : Nat) : zE := .inr (10, [.ref (m + 1), .ref (m + 2), .ref (m + 3), .int 0, .int 0, .ref (m + 4), .ref (m + 5), .ref (m + 6), .ref (m + 7), .ref (m + 8), .ref (m + 9), .ref (m + 10), .ref (m + 11), .int 0, .ref (m + 12), .ref (m + 13), .ref (m + 14), .ref (m + 15), .ref (m + 22), .int 0, .int 0, .int 0, .int 0])
def LMoI (m : Nat) (f : Nat → Int32) : List zE := eMo m :: ([] ++ [aI 543] ++ [aI 543] ++ [aI 543] ++ [aI 8] ++ [aI 480] ++ [aI 480] ++ [aI 480] ++ [aI 480] ++ [aI 480] ++ [aI 480] ++ [aI 100] ++ [aI 16] ++ [.inl (0, 6, .inl f)] ++ [aI 6] ++ (aR 6 6 (fRI (m + 16) 1 6) :: List.replicate 6 (aL 60)) ++ [aL 60])
def LMo (m : Nat) : List zE := LMoI m (fTS 6)
theorem n_MoI {m : Nat} {f : Nat → Int32} : (LMoI m f).length = 23 := rfl
section CM
variable {G : zG}
theorem L_Mo {ah : zH} {m : Nat} : ∀ n i, i + n = 6 → zW G m_Mo_init (zRm 1 22 5071) (zFm G (zQe none (zls ah m (LMo m)) (m + 23)) 22 5071) 22 5071 147 [some (.ref m), some (.int (nI i))] [] (zls ah m (LMoI m (fTS i))) (m + 23) := by
  intro n
  induction n with
  | zero =>
    intro i hi
    have e : i = 6 := by omega
    subst e
    refine z_iload_n dX10_init_147 rfl ?_
    refine z_bipush 6 dX10_init_148 (by decide) ?_
    refine z_icmp_ge 166 dX10_init_150 (by decide) (fun c150 => ?_) (fun c150 => ?_)
    · refine z_return dX10_init_166 rfl ⟨by decide, by decide⟩ ?_
      exact ⟨rfl, rfl, rfl⟩
    · exact absurd (show nI 6 ≤ nI 6 from Int32.le_refl _) c150
  | succ n ih =>
    intro i hi
    have hC : (nI i).toNatClampNeg = i := nI_clamp (by omega)
    have h0 : zls ah m (LMoI m (fTS i)) m = some (eMo m) := zls_get (i := 0) rfl
    have h13 : zls ah m (LMoI m (fTS i)) (m + 13) = some (.inl (0, 6, .inl (fTS i))) := zls_get (i := 13) rfl
    refine z_iload_n dX10_init_147 rfl ?_
    refine z_bipush 6 dX10_init_148 (by decide) ?_
    refine z_icmp_ge 166 dX10_init_150 (by decide) (fun c150 => ?_) (fun c150 => ?_)
    · exact absurd (nI_lt (show i < 6 by omega) (by decide)) (Int32.not_lt.mpr c150)
    · refine z_aload_n dX10_init_153 rfl ?_
      refine z_getf f_Mo_48 dX10_init_154 h0 rfl ?_
      refine z_iload_n dX10_init_157 rfl ?_
      refine z_iconst (-1) dX10_init_158 rfl ?_
      refine z_iast dX10_init_159 h13 (by first | assumption | exact vp_in_nI (by omega) (by omega) | (unfold vp_in; decide)) ?_
      rw [hC, fTS_up]
      refine z_heap (zls_put (j := 13) rfl (by rw [n_MoI]; decide)) ?_
      refine z_iinc (lv' := [_, _]) 1 dX10_init_160 rfl (by decide) rfl rfl ?_
      refine z_goto 147 dX10_init_163 (by decide) ?_
      refine z_eq rfl ?_ rfl rfl (ih (i + 1) (by omega))
      · rw [nI_1]
theorem I_Mo : zI G m_Mo_init 1 22 5071 23 [] (.inr (10, f_dMo)) LMo := by
  intro ah m
  refine z_meth 1 ⟨p_Mo, rfl, Nat.le_of_ble_eq_true rfl⟩ rfl ?_
  refine z_aload_n dX10_init_0 rfl ?_
  refine z_objInit o_Mo dX10_init_1 ⟨by decide, Nat.le_of_ble_eq_true rfl⟩ ?_
  refine z_aload_n dX10_init_4 rfl ?_
  refine z_sipush 543 dX10_init_5 (by decide) ?_
  refine i_newa (atype := .int) (k := 0) (N := 543) (a0 := (543, .inl (fun _ => 0))) a_int ⟨by decide, rfl⟩ (fun _ => rfl) ⟨by decide, by decide⟩ (by decide) dX10_init_8 (by decide) (by simp only [List.length_cons, List.length_append, List.length_nil, List.length_replicate, List.length_set, n_Pairs, n_Query, n_Tape, n_Reader, n_Rows, n_RowI, n_Work, n_WorkI, n_Groups, n_State, n_Qs, n_Ts, n_RCi] <;> omega) ?_
  refine i_putF F_Mo_11 dX10_init_10 rfl (Nat.le_of_ble_eq_true rfl) ⟨rfl, rfl⟩ ?_
  refine z_aload_n dX10_init_13 rfl ?_
  refine z_sipush 543 dX10_init_14 (by decide) ?_
  refine i_newa (atype := .int) (k := 0) (N := 543) (a0 := (543, .inl (fun _ => 0))) a_int ⟨by decide, rfl⟩ (fun _ => rfl) ⟨by decide, by decide⟩ (by decide) dX10_init_17 (by decide) (by simp only [List.length_cons, List.length_append, List.length_nil, List.length_replicate, List.length_set, n_Pairs, n_Query, n_Tape, n_Reader, n_Rows, n_RowI, n_Work, n_WorkI, n_Groups, n_State, n_Qs, n_Ts, n_RCi] <;> omega) ?_
  refine i_putF F_Mo_15 dX10_init_19 rfl (Nat.le_of_ble_eq_true rfl) ⟨rfl, rfl⟩ ?_
  refine z_aload_n dX10_init_22 rfl ?_
  refine z_sipush 543 dX10_init_23 (by decide) ?_
  refine i_newa (atype := .int) (k := 0) (N := 543) (a0 := (543, .inl (fun _ => 0))) a_int ⟨by decide, rfl⟩ (fun _ => rfl) ⟨by decide, by decide⟩ (by decide) dX10_init_26 (by decide) (by simp only [List.length_cons, List.length_append, List.length_nil, List.length_replicate, List.length_set, n_Pairs, n_Query, n_Tape, n_Reader, n_Rows, n_RowI, n_Work, n_WorkI, n_Groups, n_State, n_Qs, n_Ts, n_RCi] <;> omega) ?_
  refine i_putF F_Mo_18 dX10_init_28 rfl (Nat.le_of_ble_eq_true rfl) ⟨rfl, rfl⟩ ?_
  refine z_aload_n dX10_init_31 rfl ?_
  refine z_bipush 8 dX10_init_32 (by decide) ?_
  refine i_newa (atype := .int) (k := 0) (N := 8) (a0 := (8, .inl (fun _ => 0))) a_int ⟨by decide, rfl⟩ (fun _ => rfl) ⟨by decide, by decide⟩ (by decide) dX10_init_34 (by decide) (by simp only [List.length_cons, List.length_append, List.length_nil, List.length_replicate, List.length_set, n_Pairs, n_Query, n_Tape, n_Reader, n_Rows, n_RowI, n_Work, n_WorkI, n_Groups, n_State, n_Qs, n_Ts, n_RCi] <;> omega) ?_
  refine i_putF F_Mo_21 dX10_init_36 rfl (Nat.le_of_ble_eq_true rfl) ⟨rfl, rfl⟩ ?_
  refine z_aload_n dX10_init_39 rfl ?_
  refine z_sipush 480 dX10_init_40 (by decide) ?_
  refine i_newa (atype := .int) (k := 0) (N := 480) (a0 := (480, .inl (fun _ => 0))) a_int ⟨by decide, rfl⟩ (fun _ => rfl) ⟨by decide, by decide⟩ (by decide) dX10_init_43 (by decide) (by simp only [List.length_cons, List.length_append, List.length_nil, List.length_replicate, List.length_set, n_Pairs, n_Query, n_Tape, n_Reader, n_Rows, n_RowI, n_Work, n_WorkI, n_Groups, n_State, n_Qs, n_Ts, n_RCi] <;> omega) ?_
  refine i_putF F_Mo_24 dX10_init_45 rfl (Nat.le_of_ble_eq_true rfl) ⟨rfl, rfl⟩ ?_
  refine z_aload_n dX10_init_48 rfl ?_
  refine z_sipush 480 dX10_init_49 (by decide) ?_
  refine i_newa (atype := .int) (k := 0) (N := 480) (a0 := (480, .inl (fun _ => 0))) a_int ⟨by decide, rfl⟩ (fun _ => rfl) ⟨by decide, by decide⟩ (by decide) dX10_init_52 (by decide) (by simp only [List.length_cons, List.length_append, List.length_nil, List.length_replicate, List.length_set, n_Pairs, n_Query, n_Tape, n_Reader, n_Rows, n_RowI, n_Work, n_WorkI, n_Groups, n_State, n_Qs, n_Ts, n_RCi] <;> omega) ?_
  refine i_putF F_Mo_27 dX10_init_54 rfl (Nat.le_of_ble_eq_true rfl) ⟨rfl, rfl⟩ ?_
  refine z_aload_n dX10_init_57 rfl ?_
  refine z_sipush 480 dX10_init_58 (by decide) ?_
  refine i_newa (atype := .int) (k := 0) (N := 480) (a0 := (480, .inl (fun _ => 0))) a_int ⟨by decide, rfl⟩ (fun _ => rfl) ⟨by decide, by decide⟩ (by decide) dX10_init_61 (by decide) (by simp only [List.length_cons, List.length_append, List.length_nil, List.length_replicate, List.length_set, n_Pairs, n_Query, n_Tape, n_Reader, n_Rows, n_RowI, n_Work, n_WorkI, n_Groups, n_State, n_Qs, n_Ts, n_RCi] <;> omega) ?_
  refine i_putF F_Mo_30 dX10_init_63 rfl (Nat.le_of_ble_eq_true rfl) ⟨rfl, rfl⟩ ?_
  refine z_aload_n dX10_init_66 rfl ?_
  refine z_sipush 480 dX10_init_67 (by decide) ?_
  refine i_newa (atype := .int) (k := 0) (N := 480) (a0 := (480, .inl (fun _ => 0))) a_int ⟨by decide, rfl⟩ (fun _ => rfl) ⟨by decide, by decide⟩ (by decide) dX10_init_70 (by decide) (by simp only [List.length_cons, List.length_append, List.length_nil, List.length_replicate, List.length_set, n_Pairs, n_Query, n_Tape, n_Reader, n_Rows, n_RowI, n_Work, n_WorkI, n_Groups, n_State, n_Qs, n_Ts, n_RCi] <;> omega) ?_
  refine i_putF F_Mo_33 dX10_init_72 rfl (Nat.le_of_ble_eq_true rfl) ⟨rfl, rfl⟩ ?_
  refine z_aload_n dX10_init_75 rfl ?_
  refine z_sipush 480 dX10_init_76 (by decide) ?_
  refine i_newa (atype := .int) (k := 0) (N := 480) (a0 := (480, .inl (fun _ => 0))) a_int ⟨by decide, rfl⟩ (fun _ => rfl) ⟨by decide, by decide⟩ (by decide) dX10_init_79 (by decide) (by simp only [List.length_cons, List.length_append, List.length_nil, List.length_replicate, List.length_set, n_Pairs, n_Query, n_Tape, n_Reader, n_Rows, n_RowI, n_Work, n_WorkI, n_Groups, n_State, n_Qs, n_Ts, n_RCi] <;> omega) ?_
  refine i_putF F_Mo_36 dX10_init_81 rfl (Nat.le_of_ble_eq_true rfl) ⟨rfl, rfl⟩ ?_
  refine z_aload_n dX10_init_84 rfl ?_
  refine z_sipush 480 dX10_init_85 (by decide) ?_
  refine i_newa (atype := .int) (k := 0) (N := 480) (a0 := (480, .inl (fun _ => 0))) a_int ⟨by decide, rfl⟩ (fun _ => rfl) ⟨by decide, by decide⟩ (by decide) dX10_init_88 (by decide) (by simp only [List.length_cons, List.length_append, List.length_nil, List.length_replicate, List.length_set, n_Pairs, n_Query, n_Tape, n_Reader, n_Rows, n_RowI, n_Work, n_WorkI, n_Groups, n_State, n_Qs, n_Ts, n_RCi] <;> omega) ?_
  refine i_putF F_Mo_39 dX10_init_90 rfl (Nat.le_of_ble_eq_true rfl) ⟨rfl, rfl⟩ ?_
  refine z_aload_n dX10_init_93 rfl ?_
  refine z_bipush 100 dX10_init_94 (by decide) ?_
  refine i_newa (atype := .int) (k := 0) (N := 100) (a0 := (100, .inl (fun _ => 0))) a_int ⟨by decide, rfl⟩ (fun _ => rfl) ⟨by decide, by decide⟩ (by decide) dX10_init_96 (by decide) (by simp only [List.length_cons, List.length_append, List.length_nil, List.length_replicate, List.length_set, n_Pairs, n_Query, n_Tape, n_Reader, n_Rows, n_RowI, n_Work, n_WorkI, n_Groups, n_State, n_Qs, n_Ts, n_RCi] <;> omega) ?_
  refine i_putF F_Mo_42 dX10_init_98 rfl (Nat.le_of_ble_eq_true rfl) ⟨rfl, rfl⟩ ?_
  refine z_aload_n dX10_init_101 rfl ?_
  refine z_bipush 16 dX10_init_102 (by decide) ?_
  refine i_newa (atype := .int) (k := 0) (N := 16) (a0 := (16, .inl (fun _ => 0))) a_int ⟨by decide, rfl⟩ (fun _ => rfl) ⟨by decide, by decide⟩ (by decide) dX10_init_104 (by decide) (by simp only [List.length_cons, List.length_append, List.length_nil, List.length_replicate, List.length_set, n_Pairs, n_Query, n_Tape, n_Reader, n_Rows, n_RowI, n_Work, n_WorkI, n_Groups, n_State, n_Qs, n_Ts, n_RCi] <;> omega) ?_
  refine i_putF F_Mo_45 dX10_init_106 rfl (Nat.le_of_ble_eq_true rfl) ⟨rfl, rfl⟩ ?_
  refine z_aload_n dX10_init_109 rfl ?_
  refine z_bipush 6 dX10_init_110 (by decide) ?_
  refine i_newa (atype := .int) (k := 0) (N := 6) (a0 := (6, .inl (fun _ => 0))) a_int ⟨by decide, rfl⟩ (fun _ => rfl) ⟨by decide, by decide⟩ (by decide) dX10_init_112 (by decide) (by simp only [List.length_cons, List.length_append, List.length_nil, List.length_replicate, List.length_set, n_Pairs, n_Query, n_Tape, n_Reader, n_Rows, n_RowI, n_Work, n_WorkI, n_Groups, n_State, n_Qs, n_Ts, n_RCi] <;> omega) ?_
  refine i_putF F_Mo_48 dX10_init_114 rfl (Nat.le_of_ble_eq_true rfl) ⟨rfl, rfl⟩ ?_
  refine z_aload_n dX10_init_117 rfl ?_
  refine z_bipush 6 dX10_init_118 (by decide) ?_
  refine i_newa (atype := .int) (k := 0) (N := 6) (a0 := (6, .inl (fun _ => 0))) a_int ⟨by decide, rfl⟩ (fun _ => rfl) ⟨by decide, by decide⟩ (by decide) dX10_init_120 (by decide) (by simp only [List.length_cons, List.length_append, List.length_nil, List.length_replicate, List.length_set, n_Pairs, n_Query, n_Tape, n_Reader, n_Rows, n_RowI, n_Work, n_WorkI, n_Groups, n_State, n_Qs, n_Ts, n_RCi] <;> omega) ?_
  refine i_putF F_Mo_51 dX10_init_122 rfl (Nat.le_of_ble_eq_true rfl) ⟨rfl, rfl⟩ ?_
  refine z_aload_n dX10_init_125 rfl ?_
  refine z_bipush 6 dX10_init_126 (by decide) ?_
  refine z_bipush 60 dX10_init_128 (by decide) ?_
  refine z_mna n_Mo_54 dX10_init_130 (by decide) (by simp only [List.length_cons, List.length_append, List.length_nil, List.length_replicate, List.length_set, n_Pairs, n_Query, n_Tape, n_Reader, n_Rows, n_RowI, n_Work, n_WorkI, n_Groups, n_State, n_Qs, n_Ts, n_RCi] <;> omega) ?_
  refine i_putF F_Mo_56 dX10_init_134 rfl (Nat.le_of_ble_eq_true rfl) ⟨rfl, rfl⟩ ?_
  refine z_aload_n dX10_init_137 rfl ?_
  refine z_bipush 60 dX10_init_138 (by decide) ?_
  refine i_newa (atype := .long) (k := 1) (N := 60) (a0 := (60, .inr (.inl (fun _ => 0)))) a_long ⟨by decide, rfl⟩ (fun _ => rfl) ⟨by decide, by decide⟩ (by decide) dX10_init_140 (by decide) (by simp only [List.length_cons, List.length_append, List.length_nil, List.length_replicate, List.length_set, n_Pairs, n_Query, n_Tape, n_Reader, n_Rows, n_RowI, n_Work, n_WorkI, n_Groups, n_State, n_Qs, n_Ts, n_RCi] <;> omega) ?_
  refine i_putF F_Mo_59 dX10_init_142 rfl (Nat.le_of_ble_eq_true rfl) ⟨rfl, rfl⟩ ?_
  refine z_iconst 0 dX10_init_145 rfl ?_
  refine z_istore_n (lv' := [_, _]) dX10_init_146 (by decide) rfl ?_
  refine z_cs (cn' := 22) (sn' := 5071) (sz' := m + 23) (by decide) (by decide) rfl ?_
  refine z_eq rfl rfl rfl ?_ (L_Mo 6 0 rfl)
  unfold LMoI
  rw [← fTS_0]
  rfl
end CM

