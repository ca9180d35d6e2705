/-! ===== constructors: RunColumns ===== -/
theorem RC_at0 {ah : zH} {y i j : Nat} : zls ah y (LRCi y i j) y = some (eRC y) := zls_get (i := 0) rfl
theorem n_RC0 {y : Nat} : (eRC y :: LRC1 y).length = 189 := by rw [List.length_cons, n_RC1]
theorem RC_at1 {y i j : Nat} : (LRCi y i j)[189]? = some (aR 4 8 (fRI (y + 315) 5 i)) := by
  unfold LRCi
  rw [List.getElem?_append_right (by rw [n_RC0]; exact Nat.le_refl _), n_RC0]
  rfl
theorem RC_at2 {y i j : Nat} : (LRCi y i j)[190]? = some (aR 5 6 (fRI (y + 355) 2 j)) := by
  unfold LRCi
  rw [List.getElem?_append_right (by rw [n_RC0]; decide), n_RC0]
  rfl
theorem RC_addQ {y i : Nat} : (LRCi y i 0).set 189 (aR 4 8 (fRI (y + 315) 5 (i + 1))) ++ LQuery (y + 315 + 5 * i) = LRCi y (i + 1) 0 := by
  unfold LRCi
  rw [List.set_append_right _ _ (by rw [n_RC0]; exact Nat.le_refl _), n_RC0]
  show ((eRC y :: LRC1 y) ++ (aR 4 8 (fRI (y + 315) 5 (i + 1)) :: aR 5 6 (fRI (y + 355) 2 0) :: (LRC2 y ++ (LQs (y + 315) i ++ [])))) ++ LQuery (y + 315 + 5 * i) = (eRC y :: LRC1 y) ++ (aR 4 8 (fRI (y + 315) 5 (i + 1)) :: aR 5 6 (fRI (y + 355) 2 0) :: (LRC2 y ++ ((LQs (y + 315) i ++ LQuery (y + 315 + 5 * i)) ++ [])))
  simp only [List.append_assoc, List.cons_append, List.append_nil]
theorem RC_addT {y i j : Nat} : (LRCi y i j).set 190 (aR 5 6 (fRI (y + 355) 2 (j + 1))) ++ LTape (y + 355 + 2 * j) = LRCi y i (j + 1) := by
  unfold LRCi
  rw [List.set_append_right _ _ (by rw [n_RC0]; decide), n_RC0]
  show ((eRC y :: LRC1 y) ++ (aR 4 8 (fRI (y + 315) 5 i) :: aR 5 6 (fRI (y + 355) 2 (j + 1)) :: (LRC2 y ++ (LQs (y + 315) i ++ LTs (y + 355) j)))) ++ LTape (y + 355 + 2 * j) = (eRC y :: LRC1 y) ++ (aR 4 8 (fRI (y + 315) 5 i) :: aR 5 6 (fRI (y + 355) 2 (j + 1)) :: (LRC2 y ++ (LQs (y + 315) i ++ (LTs (y + 355) j ++ LTape (y + 355 + 2 * j)))))
  simp only [List.append_assoc, List.cons_append]
section CU
variable {G : zG}
theorem z_cs {M : zM} {R : Room} {F : zFin} {cn cn' sn sn' pc sz sz' : Nat} {lv : List (Option Value)} {st : List Value} {ah : zH} (h1 : cn = cn') (h2 : sn = sn') (h3 : sz = sz') (k : zW G M R F cn' sn' pc lv st ah sz') : zW G M R F cn sn pc lv st ah sz := by
  subst h1; subst h2; subst h3; exact k
theorem L_RCt {ah : zH} {y : Nat} : ∀ n j, j + n = 6 → zW G m_RC_init (zRm 4 366 3231) (zFm G (zQe none (zls ah y (LRC y)) (y + 367)) 366 3231) (354 + 2 * j) (2853 + 63 * j) 149 [some (.ref y), some (.int (nI j))] [] (zls ah y (LRCi y 8 j)) (y + 355 + 2 * j) := by
  intro n
  induction n with
  | zero =>
    intro j hj
    have e : j = 6 := by omega
    subst e
    refine z_iload_n dX9_init_149 rfl ?_
    refine z_bipush 6 dX9_init_150 (by decide) ?_
    refine z_icmp_ge 174 dX9_init_152 (by decide) (fun c152 => ?_) (fun c152 => ?_)
    · refine z_return dX9_init_174 rfl ⟨by decide, by decide⟩ ?_
      exact ⟨rfl, rfl, rfl⟩
    · exact absurd (show nI 6 ≤ nI 6 from Int32.le_refl _) c152
  | succ n ih =>
    intro j hj
    have hC : (nI j).toNatClampNeg = j := nI_clamp (by omega)
    refine z_iload_n dX9_init_149 rfl ?_
    refine z_bipush 6 dX9_init_150 (by decide) ?_
    refine z_icmp_ge 174 dX9_init_152 (by decide) (fun c152 => ?_) (fun c152 => ?_)
    · exact absurd (nI_lt (show j < 6 by omega) (by decide)) (Int32.not_lt.mpr c152)
    · refine z_aload_n dX9_init_155 rfl ?_
      refine z_getf f_RC_44 dX9_init_156 RC_at0 rfl ?_
      refine z_iload_n dX9_init_159 rfl ?_
      refine i_new d_Tape n_RC_42 dX9_init_160 ⟨by show 354 + 2 * j + 1 ≤ 366; omega, by show 2853 + 63 * j + 3 ≤ 3231; omega⟩ ?_
      refine z_dup dX9_init_163 rfl ?_
      refine z_callI l_RC_80 (I_Tape _ _) dX9_init_164 rfl rfl (Nat.le_of_ble_eq_true rfl) ⟨⟨by decide, by decide⟩, by show 354 + 2 * j + 1 + 1 ≤ 366; omega, by show 2853 + 63 * j + 3 + 60 ≤ 3231; omega⟩ (fun r164 h164 z164 q164 => ?_)
      obtain ⟨rfl, rfl, rfl⟩ := q164
      refine z_aast (k := 5) (a := y + 190) (C := RX7) (ci := 7) (by decide) ⟨rfl, rfl⟩ dX9_init_167 ((zls_lo (by omega)).trans (zls_get (i := 190) RC_at2)) zls_hd (by first | exact vp_in_nI (by omega) (by omega)) ?_
      rw [hC, fRI_up]
      refine z_heap ((zls_aas (j := 190) rfl (by simp only [List.length_cons, List.length_append, List.length_nil, List.length_replicate, List.length_set, n_Pairs, n_Query, n_Tape, n_Reader, n_Rows, n_RowI, n_Work, n_WorkI, n_Groups, n_State, n_Qs, n_Ts, n_RCi] <;> omega) (by simp only [List.length_cons, List.length_append, List.length_nil, List.length_replicate, List.length_set, n_Pairs, n_Query, n_Tape, n_Reader, n_Rows, n_RowI, n_Work, n_WorkI, n_Groups, n_State, n_Qs, n_Ts, n_RCi] <;> omega)).trans (congrArg _ RC_addT)) ?_
      refine z_iinc (lv' := [_, _]) 1 dX9_init_168 rfl (by decide) rfl rfl ?_
      refine z_goto 149 dX9_init_171 (by decide) ?_
      refine z_eq rfl ?_ rfl rfl (ih (j + 1) (by omega))
      · rw [nI_1]
theorem L_RCq {ah : zH} {y : Nat} : ∀ n i, i + n = 8 → zW G m_RC_init (zRm 4 366 3231) (zFm G (zQe none (zls ah y (LRC y)) (y + 367)) 366 3231) (314 + 5 * i) (1213 + 205 * i) 122 [some (.ref y), some (.int (nI i))] [] (zls ah y (LRCi y i 0)) (y + 315 + 5 * i) := by
  intro n
  induction n with
  | zero =>
    intro i hi
    have e : i = 8 := by omega
    subst e
    refine z_iload_n dX9_init_122 rfl ?_
    refine z_bipush 8 dX9_init_123 (by decide) ?_
    refine z_icmp_ge 147 dX9_init_125 (by decide) (fun c125 => ?_) (fun c125 => ?_)
    · refine z_iconst 0 dX9_init_147 rfl ?_
      refine z_istore_n (lv' := [_, _]) dX9_init_148 (by decide) rfl ?_
      exact L_RCt 6 0 rfl
    · exact absurd (show nI 8 ≤ nI 8 from Int32.le_refl _) c125
  | succ n ih =>
    intro i hi
    have hC : (nI i).toNatClampNeg = i := nI_clamp (by omega)
    refine z_iload_n dX9_init_122 rfl ?_
    refine z_bipush 8 dX9_init_123 (by decide) ?_
    refine z_icmp_ge 147 dX9_init_125 (by decide) (fun c125 => ?_) (fun c125 => ?_)
    · exact absurd (nI_lt (show i < 8 by omega) (by decide)) (Int32.not_lt.mpr c125)
    · refine z_aload_n dX9_init_128 rfl ?_
      refine z_getf f_RC_34 dX9_init_129 RC_at0 rfl ?_
      refine z_iload_n dX9_init_132 rfl ?_
      refine i_new d_Query n_RC_32 dX9_init_133 ⟨by show 314 + 5 * i + 1 ≤ 366; omega, by show 1213 + 205 * i + 5 ≤ 3231; omega⟩ ?_
      refine z_dup dX9_init_136 rfl ?_
      refine z_callI l_RC_79 (I_Query _ _) dX9_init_137 rfl rfl (Nat.le_of_ble_eq_true rfl) ⟨⟨by decide, by decide⟩, by show 314 + 5 * i + 1 + 4 ≤ 366; omega, by show 1213 + 205 * i + 5 + 200 ≤ 3231; omega⟩ (fun r137 h137 z137 q137 => ?_)
      obtain ⟨rfl, rfl, rfl⟩ := q137
      refine z_aast (k := 4) (a := y + 189) (C := RX3) (ci := 3) (by decide) ⟨rfl, rfl⟩ dX9_init_140 ((zls_lo (by omega)).trans (zls_get (i := 189) RC_at1)) zls_hd (by first | exact vp_in_nI (by omega) (by omega)) ?_
      rw [hC, fRI_up]
      refine z_heap ((zls_aas (j := 189) rfl (by simp only [List.length_cons, List.length_append, List.length_nil, List.length_replicate, List.length_set, n_Pairs, n_Query, n_Tape, n_Reader, n_Rows, n_RowI, n_Work, n_WorkI, n_Groups, n_State, n_Qs, n_Ts, n_RCi] <;> omega) (by simp only [List.length_cons, List.length_append, List.length_nil, List.length_replicate, List.length_set, n_Pairs, n_Query, n_Tape, n_Reader, n_Rows, n_RowI, n_Work, n_WorkI, n_Groups, n_State, n_Qs, n_Ts, n_RCi] <;> omega)).trans (congrArg _ RC_addQ)) ?_
      refine z_iinc (lv' := [_, _]) 1 dX9_init_141 rfl (by decide) rfl rfl ?_
      refine z_goto 122 dX9_init_144 (by decide) ?_
      refine z_cs (cn' := 314 + 5 * (i + 1)) (sn' := 1213 + 205 * (i + 1)) (sz' := y + 315 + 5 * (i + 1)) (by omega) (by omega) (by omega) ?_
      refine z_eq rfl ?_ rfl rfl (ih (i + 1) (by omega))
      · rw [nI_1]
theorem I_RC : zI G m_RC_init 4 366 3231 367 [] (.inr (9, f_dRC)) LRC := by
  intro ah y
  refine z_meth 1 ⟨p_RC, rfl, Nat.le_of_ble_eq_true rfl⟩ rfl ?_
  refine z_aload_n dX9_init_0 rfl ?_
  refine z_objInit o_RC dX9_init_1 ⟨by decide, Nat.le_of_ble_eq_true rfl⟩ ?_
  refine z_aload_n dX9_init_4 rfl ?_
  refine i_new d_State n_RC_11 dX9_init_5 (by decide) ?_
  refine z_dup dX9_init_8 rfl ?_
  refine z_callI l_RC_13 (I_State _ _) dX9_init_9 rfl rfl (Nat.le_of_ble_eq_true rfl) ⟨⟨by decide, by decide⟩, by decide, by decide⟩ (fun r9 h9 z9 q9 => ?_)
  obtain ⟨rfl, rfl, rfl⟩ := q9
  refine z_heap (zls_apc (by simp only [List.length_cons, List.length_append, List.length_nil, List.length_replicate, List.length_set, n_Pairs, n_Query, n_Tape, n_Reader, n_Rows, n_RowI, n_Work, n_WorkI, n_Groups, n_State, n_Qs, n_Ts, n_RCi] <;> omega)) ?_
  refine i_putF F_RC_14 dX9_init_12 rfl (Nat.le_of_ble_eq_true rfl) ⟨rfl, rfl⟩ ?_
  refine z_aload_n dX9_init_15 rfl ?_
  refine i_new d_State n_RC_11 dX9_init_16 (by decide) ?_
  refine z_dup dX9_init_19 rfl ?_
  refine z_callI l_RC_13 (I_State _ _) dX9_init_20 rfl rfl (Nat.le_of_ble_eq_true rfl) ⟨⟨by decide, by decide⟩, by decide, by decide⟩ (fun r20 h20 z20 q20 => ?_)
  obtain ⟨rfl, rfl, rfl⟩ := q20
  refine z_heap (zls_apc (by simp only [List.length_cons, List.length_append, List.length_nil, List.length_replicate, List.length_set, n_Pairs, n_Query, n_Tape, n_Reader, n_Rows, n_RowI, n_Work, n_WorkI, n_Groups, n_State, n_Qs, n_Ts, n_RCi] <;> omega)) ?_
  refine i_putF F_RC_18 dX9_init_23 rfl (Nat.le_of_ble_eq_true rfl) ⟨rfl, rfl⟩ ?_
  refine z_aload_n dX9_init_26 rfl ?_
  refine z_iconst 0 dX9_init_27 rfl ?_
  refine i_putf f_RC_21 dX9_init_28 (Nat.le_of_ble_eq_true rfl) ⟨rfl, rfl⟩ ?_
  refine z_aload_n dX9_init_31 rfl ?_
  refine i_new d_Reader n_RC_25 dX9_init_32 (by decide) ?_
  refine z_dup dX9_init_35 rfl ?_
  refine z_callI l_RC_27 (I_Reader _ _) dX9_init_36 rfl rfl (Nat.le_of_ble_eq_true rfl) ⟨⟨by decide, by decide⟩, by decide, by decide⟩ (fun r36 h36 z36 q36 => ?_)
  obtain ⟨rfl, rfl, rfl⟩ := q36
  refine z_heap (zls_apc (by simp only [List.length_cons, List.length_append, List.length_nil, List.length_replicate, List.length_set, n_Pairs, n_Query, n_Tape, n_Reader, n_Rows, n_RowI, n_Work, n_WorkI, n_Groups, n_State, n_Qs, n_Ts, n_RCi] <;> omega)) ?_
  refine i_putF F_RC_28 dX9_init_39 rfl (Nat.le_of_ble_eq_true rfl) ⟨rfl, rfl⟩ ?_
  refine z_aload_n dX9_init_42 rfl ?_
  refine z_bipush 8 dX9_init_43 (by decide) ?_
  refine i_anew (k := 4) (N := 8) N_RC_32 ⟨by decide, rfl⟩ ⟨by decide, by decide⟩ (by decide) dX9_init_45 (by decide) (by simp only [List.length_cons, List.length_append, List.length_nil, List.length_replicate, List.length_set, n_Pairs, n_Query, n_Tape, n_Reader, n_Rows, n_RowI, n_Work, n_WorkI, n_Groups, n_State, n_Qs, n_Ts, n_RCi] <;> omega) ?_
  refine i_putF F_RC_34 dX9_init_48 rfl (Nat.le_of_ble_eq_true rfl) ⟨rfl, rfl⟩ ?_
  refine z_aload_n dX9_init_51 rfl ?_
  refine z_iconst 0 dX9_init_52 rfl ?_
  refine i_putf f_RC_38 dX9_init_53 (Nat.le_of_ble_eq_true rfl) ⟨rfl, rfl⟩ ?_
  refine z_aload_n dX9_init_56 rfl ?_
  refine z_bipush 6 dX9_init_57 (by decide) ?_
  refine i_anew (k := 5) (N := 6) N_RC_42 ⟨by decide, rfl⟩ ⟨by decide, by decide⟩ (by decide) dX9_init_59 (by decide) (by simp only [List.length_cons, List.length_append, List.length_nil, List.length_replicate, List.length_set, n_Pairs, n_Query, n_Tape, n_Reader, n_Rows, n_RowI, n_Work, n_WorkI, n_Groups, n_State, n_Qs, n_Ts, n_RCi] <;> omega) ?_
  refine i_putF F_RC_44 dX9_init_62 rfl (Nat.le_of_ble_eq_true rfl) ⟨rfl, rfl⟩ ?_
  refine z_aload_n dX9_init_65 rfl ?_
  refine i_new d_Work n_RC_48 dX9_init_66 (by decide) ?_
  refine z_dup dX9_init_69 rfl ?_
  refine z_callI l_RC_50 (I_Work _ _) dX9_init_70 rfl rfl (Nat.le_of_ble_eq_true rfl) ⟨⟨by decide, by decide⟩, by decide, by decide⟩ (fun r70 h70 z70 q70 => ?_)
  obtain ⟨rfl, rfl, rfl⟩ := q70
  refine z_heap (zls_apc (by simp only [List.length_cons, List.length_append, List.length_nil, List.length_replicate, List.length_set, n_Pairs, n_Query, n_Tape, n_Reader, n_Rows, n_RowI, n_Work, n_WorkI, n_Groups, n_State, n_Qs, n_Ts, n_RCi] <;> omega)) ?_
  refine i_putF F_RC_51 dX9_init_73 rfl (Nat.le_of_ble_eq_true rfl) ⟨rfl, rfl⟩ ?_
  refine z_aload_n dX9_init_76 rfl ?_
  refine i_new d_Work n_RC_48 dX9_init_77 (by decide) ?_
  refine z_dup dX9_init_80 rfl ?_
  refine z_callI l_RC_50 (I_Work _ _) dX9_init_81 rfl rfl (Nat.le_of_ble_eq_true rfl) ⟨⟨by decide, by decide⟩, by decide, by decide⟩ (fun r81 h81 z81 q81 => ?_)
  obtain ⟨rfl, rfl, rfl⟩ := q81
  refine z_heap (zls_apc (by simp only [List.length_cons, List.length_append, List.length_nil, List.length_replicate, List.length_set, n_Pairs, n_Query, n_Tape, n_Reader, n_Rows, n_RowI, n_Work, n_WorkI, n_Groups, n_State, n_Qs, n_Ts, n_RCi] <;> omega)) ?_
  refine i_putF F_RC_55 dX9_init_84 rfl (Nat.le_of_ble_eq_true rfl) ⟨rfl, rfl⟩ ?_
  refine z_aload_n dX9_init_87 rfl ?_
  refine i_new d_Bits n_RC_58 dX9_init_88 (by decide) ?_
  refine z_dup dX9_init_91 rfl ?_
  refine z_callI l_RC_60 (I_Bits _ _) dX9_init_92 rfl rfl (Nat.le_of_ble_eq_true rfl) ⟨⟨by decide, by decide⟩, by decide, by decide⟩ (fun r92 h92 z92 q92 => ?_)
  obtain ⟨rfl, rfl, rfl⟩ := q92
  refine z_heap (zls_apc (by simp only [List.length_cons, List.length_append, List.length_nil, List.length_replicate, List.length_set, n_Pairs, n_Query, n_Tape, n_Reader, n_Rows, n_RowI, n_Work, n_WorkI, n_Groups, n_State, n_Qs, n_Ts, n_RCi] <;> omega)) ?_
  refine i_putF F_RC_61 dX9_init_95 rfl (Nat.le_of_ble_eq_true rfl) ⟨rfl, rfl⟩ ?_
  refine z_aload_n dX9_init_98 rfl ?_
  refine i_new d_Groups n_RC_65 dX9_init_99 (by decide) ?_
  refine z_dup dX9_init_102 rfl ?_
  refine z_callI l_RC_67 (I_Groups _ _) dX9_init_103 rfl rfl (Nat.le_of_ble_eq_true rfl) ⟨⟨by decide, by decide⟩, by decide, by decide⟩ (fun r103 h103 z103 q103 => ?_)
  obtain ⟨rfl, rfl, rfl⟩ := q103
  refine z_heap (zls_apc (by simp only [List.length_cons, List.length_append, List.length_nil, List.length_replicate, List.length_set, n_Pairs, n_Query, n_Tape, n_Reader, n_Rows, n_RowI, n_Work, n_WorkI, n_Groups, n_State, n_Qs, n_Ts, n_RCi] <;> omega)) ?_
  refine i_putF F_RC_68 dX9_init_106 rfl (Nat.le_of_ble_eq_true rfl) ⟨rfl, rfl⟩ ?_
  refine z_aload_n dX9_init_109 rfl ?_
  refine i_new d_Rows n_RC_72 dX9_init_110 (by decide) ?_
  refine z_dup dX9_init_113 rfl ?_
  refine z_callI l_RC_74 (I_Rows _ _) dX9_init_114 rfl rfl (Nat.le_of_ble_eq_true rfl) ⟨⟨by decide, by decide⟩, by decide, by decide⟩ (fun r114 h114 z114 q114 => ?_)
  obtain ⟨rfl, rfl, rfl⟩ := q114
  refine z_heap (zls_apc (by simp only [List.length_cons, List.length_append, List.length_nil, List.length_replicate, List.length_set, n_Pairs, n_Query, n_Tape, n_Reader, n_Rows, n_RowI, n_Work, n_WorkI, n_Groups, n_State, n_Qs, n_Ts, n_RCi] <;> omega)) ?_
  refine i_putF F_RC_75 dX9_init_117 rfl (Nat.le_of_ble_eq_true rfl) ⟨rfl, rfl⟩ ?_
  refine z_iconst 0 dX9_init_120 rfl ?_
  refine z_istore_n (lv' := [_, _]) dX9_init_121 (by decide) rfl ?_
  refine z_eq rfl rfl rfl ?_ (L_RCq 8 0 rfl)
  refine congrArg (zls ah y) ?_
  unfold LRCi LRC1 LRC2
  rw [← fRI_0 (b := y + 315) (d := 5), ← fRI_0 (b := y + 355) (d := 2)]
  have e1 : LQs (y + 315) 0 = [] := rfl
  have e2 : LTs (y + 355) 0 = [] := rfl
  simp only [e1, e2, List.append_assoc, List.cons_append, List.nil_append, List.append_nil]
  rfl
end CU

