/-! ===== constructors: what they leave, as a row of cells ===== -/
def zls (ah : zH) (y : Nat) (l : List zE) : zH := fun a => if y ≤ a then (match l[a - y]? with | some e => some e | none => ah a) else ah a
theorem zls_get {ah : zH} {y i : Nat} {l : List zE} {e : zE} (h : l[i]? = some e) : zls ah y l (y + i) = some e := by
  unfold zls
  rw [if_pos (Nat.le_add_right _ _), Nat.add_sub_cancel_left, h]
theorem zls_hd {ah : zH} {y : Nat} {l : List zE} {e : zE} : zls ah y (e :: l) y = some e := zls_get (i := 0) rfl
theorem zls_lo {ah : zH} {y a : Nat} {l : List zE} (h : a < y) : zls ah y l a = ah a := if_neg (by omega)
theorem zls_one {ah : zH} {y : Nat} {e : zE} : zu ah y e = zls ah y [e] := by
  funext a
  unfold zu zls
  by_cases h : a = y
  · subst h
    rw [if_pos rfl, if_pos (Nat.le_refl _), Nat.sub_self]
    rfl
  · rw [if_neg h]
    by_cases h2 : y ≤ a
    · rw [if_pos h2, List.getElem?_eq_none (by show 1 ≤ a - y; omega)]
    · rw [if_neg h2]
theorem zls_put {ah : zH} {y a j : Nat} {l : List zE} {e : zE} (ha : a = y + j) (hj : j < l.length) : zu (zls ah y l) a e = zls ah y (l.set j e) := by
  subst ha
  funext a
  unfold zu zls
  by_cases h : a = y + j
  · subst h
    rw [if_pos rfl, if_pos (Nat.le_add_right _ _), Nat.add_sub_cancel_left, List.getElem?_set_self hj]
  · rw [if_neg h]
    by_cases h2 : y ≤ a
    · rw [if_pos h2, if_pos h2, List.getElem?_set_ne (by omega)]
    · rw [if_neg h2, if_neg h2]
theorem zls_app {ah : zH} {y b : Nat} {l l' : List zE} (hb : b = y + l.length) : zls (zls ah y l) b l' = zls ah y (l ++ l') := by
  subst hb
  funext a
  unfold zls
  by_cases h : y + l.length ≤ a
  · rw [if_pos h, if_pos (by omega), if_pos (by omega), List.getElem?_append_right (by omega), Nat.sub_add_eq, List.getElem?_eq_none (l := l) (by omega)]
  · rw [if_neg h]
    by_cases h2 : y ≤ a
    · rw [if_pos h2, if_pos h2, List.getElem?_append_left (by omega)]
    · rw [if_neg h2, if_neg h2]
theorem zls_apc {ah : zH} {y b : Nat} {e : zE} {l l' : List zE} (hb : b = y + l.length + 1) : zls (zls ah y (e :: l)) b l' = zls ah y (e :: (l ++ l')) := zls_app (by rw [hb]; rfl)
/-- a store into an array of references while a new row of cells lies at the end -/
theorem zls_aas {ah : zH} {y a b j : Nat} {l l' : List zE} {e : zE} (ha : a = y + j) (hj : j < l.length) (hb : b = y + l.length) : zu (zls (zls ah y l) b l') a e = zls ah y (l.set j e ++ l') := by
  rw [zls_app hb, zls_put ha (by rw [List.length_append]; omega), List.set_append_left _ _ hj]
section IL
variable {G : zG} {M : zM} {R : Room} {F : zFin} {cn sn pc y : Nat} {lv : List (Option Value)} {st : List Value} {ah : zH} {sz : Nat} {L : List zE}
theorem i_getf {ci k index : Nat} {t : FieldType} {fin : Bool} {fs : List Value} {v : Value} (hf : zFl M.1 index ci k t fin) (hd : decode (zcd M) pc = .ok (.getfield index, 3)) (hv : fs[k]? = some v) (kk : zW G M R F cn sn (pc + 3) lv (v :: st) (zls ah y (.inr (ci, fs) :: L)) sz) : zW G M R F cn sn pc lv (.ref y :: st) (zls ah y (.inr (ci, fs) :: L)) sz := z_getf hf hd zls_hd hv kk
theorem i_putf {ci k index : Nat} {t : FieldType} {fs : List Value} {v : Value} (hf : zFl M.1 index ci k t false) (hd : decode (zcd M) pc = .ok (.putfield index, 3)) (hl : k < fs.length) (hn : narrow t v = v ∧ fits t v = true) (kk : zW G M R F cn sn (pc + 3) lv st (zls ah y (.inr (ci, fs.set k v) :: L)) sz) : zW G M R F cn sn pc lv (v :: .ref y :: st) (zls ah y (.inr (ci, fs) :: L)) sz :=
  z_putf hf hd zls_hd hl hn (z_heap (zls_put (j := 0) rfl (Nat.succ_pos _)) kk)
theorem i_putF {ci k index : Nat} {t : FieldType} {fs : List Value} {v : Value} (hf : zFF M.1 index ci k t) (hd : decode (zcd M) pc = .ok (.putfield index, 3)) (hM : M.2.1.name = "<init>") (hl : k < fs.length) (hn : narrow t v = v ∧ fits t v = true) (kk : zW G M R F cn sn (pc + 3) lv st (zls ah y (.inr (ci, fs.set k v) :: L)) sz) : zW G M R F cn sn pc lv (v :: .ref y :: st) (zls ah y (.inr (ci, fs) :: L)) sz :=
  z_putF hf hd zls_hd hM hl hn (z_heap (zls_put (j := 0) rfl (Nat.succ_pos _)) kk)
theorem i_new {ci index N : Nat} {C : String} {fs : List Value} (hf : ∃ (T : u_T) (ty : Nat → FieldType), zCl ci C T ty N ∧ ∀ j, j < N → defaultValue (ty j) = vp_V fs j) (hl : Cond.classLink M.1 index C ∈ lw_gd ∧ Cond.instantiable C N ∈ lw_gd ∧ Cond.initialized C ∈ lw_gd) (hd : decode (zcd M) pc = .ok (.new index, 3)) (hr : cn + 1 ≤ R.cells ∧ sn + N ≤ R.slots)
    (kk : zW G M R F (cn + 1) (sn + N) (pc + 3) lv (.ref sz :: st) (zls ah sz [.inr (ci, fs)]) (sz + 1)) : zW G M R F cn sn pc lv st ah sz := z_new hf hl hd hr (z_heap zls_one kk)
theorem i_newa {k N : Nat} {e : zE} {atype : ArrayType} {a0 : vp_A} {n : Int32} (hl : Cond.arrayClass (newarray.typeOf atype) ∈ lw_gd) (hk : k < 3 ∧ zT k = newarray.typeOf atype) (ha : ∀ cA : ClassId, vp_cell cA a0 = arrV cA N (fun _ => defaultValue (newarray.typeOf atype))) (hn : ¬ n < 0 ∧ n.toNatClampNeg = N) (hb : N * componentBytes (newarray.typeOf atype) ≤ 536870912) (hd : decode (zcd M) pc = .ok (.newarray atype, 2)) (hr : cn + 1 ≤ R.cells ∧ sn + N ≤ R.slots) (hz : sz = y + L.length + 1)
    (kk : zW G M R F (cn + 1) (sn + N) (pc + 2) lv (.ref sz :: st) (zls ah y (e :: (L ++ [.inl (k, a0)]))) (sz + 1)) : zW G M R F cn sn pc lv (.int n :: st) (zls ah y (e :: L)) sz := z_newa hl hk ha hn hb hd hr (z_heap (zls_one.trans (zls_apc hz)) kk)
theorem i_anew {k N index : Nat} {e : zE} {C : String} {n : Int32} (hl : Cond.classLink M.1 index C ∈ lw_gd ∧ Cond.arrayOver (.object C) ∈ lw_tbl) (hk : k < 7 ∧ zT k = .object C) (hn : ¬ n < 0 ∧ n.toNatClampNeg = N) (hb : N * 4 ≤ 536870912) (hd : decode (zcd M) pc = .ok (.anewarray index, 3)) (hr : cn + 1 ≤ R.cells ∧ sn + N ≤ R.slots) (hz : sz = y + L.length + 1)
    (kk : zW G M R F (cn + 1) (sn + N) (pc + 3) lv (.ref sz :: st) (zls ah y (e :: (L ++ [.inl (k, N, .inr (.inr (.inr (.inr (fun _ => none)))))]))) (sz + 1)) : zW G M R F cn sn pc lv (.int n :: st) (zls ah y (e :: L)) sz := z_anew hl hk hn hb hd hr (z_heap (zls_one.trans (zls_apc hz)) kk)
end IL
abbrev f_dBits : List Value := [.long 0, .long 0]
theorem d_Bits : ∃ (T : u_T) (ty : Nat → FieldType), zCl 0 RX0 T ty 2 ∧ ∀ j, j < 2 → defaultValue (ty j) = vp_V f_dBits j := ⟨_, _, k_Bits, fun j hj => by
  match j, hj with
  | 0, _ => rfl
  | 1, _ => rfl
  | j + 2, h => exact absurd h (by omega)⟩
abbrev f_dGroups : List Value := [.null, .null, .int 0]
theorem d_Groups : ∃ (T : u_T) (ty : Nat → FieldType), zCl 1 RX1 T ty 3 ∧ ∀ j, j < 3 → defaultValue (ty j) = vp_V f_dGroups j := ⟨_, _, k_Groups, fun j hj => by
  match j, hj with
  | 0, _ => rfl
  | 1, _ => rfl
  | 2, _ => rfl
  | j + 3, h => exact absurd h (by omega)⟩
abbrev f_dPairs : List Value := [.int 0, .null, .null, .int 0]
theorem d_Pairs : ∃ (T : u_T) (ty : Nat → FieldType), zCl 2 RX2 T ty 4 ∧ ∀ j, j < 4 → defaultValue (ty j) = vp_V f_dPairs j := ⟨_, _, k_Pairs, fun j hj => by
  match j, hj with
  | 0, _ => rfl
  | 1, _ => rfl
  | 2, _ => rfl
  | 3, _ => rfl
  | j + 4, h => exact absurd h (by omega)⟩
abbrev f_dQuery : List Value := [.null, .null, .null, .null, .int 0]
theorem d_Query : ∃ (T : u_T) (ty : Nat → FieldType), zCl 3 RX3 T ty 5 ∧ ∀ j, j < 5 → defaultValue (ty j) = vp_V f_dQuery j := ⟨_, _, k_Query, fun j hj => by
  match j, hj with
  | 0, _ => rfl
  | 1, _ => rfl
  | 2, _ => rfl
  | 3, _ => rfl
  | 4, _ => rfl
  | j + 5, h => exact absurd h (by omega)⟩
abbrev f_dReader : List Value := [.null, .int 0, .int 0, .int 0]
theorem d_Reader : ∃ (T : u_T) (ty : Nat → FieldType), zCl 4 RX4 T ty 4 ∧ ∀ j, j < 4 → defaultValue (ty j) = vp_V f_dReader j := ⟨_, _, k_Reader, fun j hj => by
  match j, hj with
  | 0, _ => rfl
  | 1, _ => rfl
  | 2, _ => rfl
  | 3, _ => rfl
  | j + 4, h => exact absurd h (by omega)⟩
abbrev f_dRows : List Value := [.null, .int 0]
theorem d_Rows : ∃ (T : u_T) (ty : Nat → FieldType), zCl 5 RX5 T ty 2 ∧ ∀ j, j < 2 → defaultValue (ty j) = vp_V f_dRows j := ⟨_, _, k_Rows, fun j hj => by
  match j, hj with
  | 0, _ => rfl
  | 1, _ => rfl
  | j + 2, h => exact absurd h (by omega)⟩
abbrev f_dState : List Value := [.null, .null, .int 0, .null, .null, .null]
theorem d_State : ∃ (T : u_T) (ty : Nat → FieldType), zCl 6 RX6 T ty 6 ∧ ∀ j, j < 6 → defaultValue (ty j) = vp_V f_dState j := ⟨_, _, k_State, fun j hj => by
  match j, hj with
  | 0, _ => rfl
  | 1, _ => rfl
  | 2, _ => rfl
  | 3, _ => rfl
  | 4, _ => rfl
  | 5, _ => rfl
  | j + 6, h => exact absurd h (by omega)⟩
abbrev f_dTape : List Value := [.null, .int 0, .int 0]
theorem d_Tape : ∃ (T : u_T) (ty : Nat → FieldType), zCl 7 RX7 T ty 3 ∧ ∀ j, j < 3 → defaultValue (ty j) = vp_V f_dTape j := ⟨_, _, k_Tape, fun j hj => by
  match j, hj with
  | 0, _ => rfl
  | 1, _ => rfl
  | 2, _ => rfl
  | j + 3, h => exact absurd h (by omega)⟩
abbrev f_dWork : List Value := [.null, .null, .null, .int 0]
theorem d_Work : ∃ (T : u_T) (ty : Nat → FieldType), zCl 8 RX8 T ty 4 ∧ ∀ j, j < 4 → defaultValue (ty j) = vp_V f_dWork j := ⟨_, _, k_Work, fun j hj => by
  match j, hj with
  | 0, _ => rfl
  | 1, _ => rfl
  | 2, _ => rfl
  | 3, _ => rfl
  | j + 4, h => exact absurd h (by omega)⟩
abbrev f_dRC : List Value := [.null, .null, .int 0, .null, .null, .int 0, .null, .null, .null, .null, .null, .null]
theorem d_RC : ∃ (T : u_T) (ty : Nat → FieldType), zCl 9 RX9 T ty 12 ∧ ∀ j, j < 12 → defaultValue (ty j) = vp_V f_dRC j := ⟨_, _, k_RC, fun j hj => by
  match j, hj with
  | 0, _ => rfl
  | 1, _ => rfl
  | 2, _ => rfl
  | 3, _ => rfl
  | 4, _ => rfl
  | 5, _ => rfl
  | 6, _ => rfl
  | 7, _ => rfl
  | 8, _ => rfl
  | 9, _ => rfl
  | 10, _ => rfl
  | 11, _ => rfl
  | j + 12, h => exact absurd h (by omega)⟩
abbrev f_dMo : List Value := [.null, .null, .null, .int 0, .int 0, .null, .null, .null, .null, .null, .null, .null, .null, .int 0, .null, .null, .null, .null, .null, .int 0, .int 0, .int 0, .int 0]
theorem d_Mo : ∃ (T : u_T) (ty : Nat → FieldType), zCl 10 RX10 T ty 23 ∧ ∀ j, j < 23 → defaultValue (ty j) = vp_V f_dMo j := ⟨_, _, k_Mo, fun j hj => by
  match j, hj with
  | 0, _ => rfl
  | 1, _ => rfl
  | 2, _ => rfl
  | 3, _ => rfl
  | 4, _ => rfl
  | 5, _ => rfl
  | 6, _ => rfl
  | 7, _ => rfl
  | 8, _ => rfl
  | 9, _ => rfl
  | 10, _ => rfl
  | 11, _ => rfl
  | 12, _ => rfl
  | 13, _ => rfl
  | 14, _ => rfl
  | 15, _ => rfl
  | 16, _ => rfl
  | 17, _ => rfl
  | 18, _ => rfl
  | 19, _ => rfl
  | 20, _ => rfl
  | 21, _ => rfl
  | 22, _ => rfl
  | j + 23, h => exact absurd h (by omega)⟩
abbrev aI (n : Nat) : zE := .inl (0, n, .inl (fun _ => 0))
abbrev aB0 (n : Nat) : zE := .inl (2, n, .inl (fun _ => 0))
abbrev aL (n : Nat) : zE := .inl (1, n, .inr (.inl (fun _ => 0)))
abbrev aR (c n : Nat) (f : Nat → Option Nat) : zE := .inl (c, n, .inr (.inr (.inr (.inr f))))
abbrev eB : zE := .inr (0, [.long 0, .long 0])
def fRI (b d i : Nat) : Nat → Option Nat := fun j => if j < i then some (b + d * j) else none
theorem fRI_up {b d i : Nat} : va_up (fRI b d i) i (some (b + d * i)) = fRI b d (i + 1) := by
  funext j
  unfold va_up fRI
  by_cases h : j = i
  · subst h
    rw [if_pos rfl, if_pos (Nat.lt_succ_self _)]
  · rw [if_neg h]
    by_cases h2 : j < i
    · rw [if_pos h2, if_pos (by omega)]
    · rw [if_neg h2, if_neg (by omega)]
theorem fRI_0 {b d : Nat} : (fun _ => none) = fRI b d 0 := by
  funext j
  unfold fRI
  rw [if_neg (Nat.not_lt_zero _)]
def LPairs (y n : Nat) : List zE := [.inr (2, [.int (nI n), .ref (y + 1), .ref (y + 2), .int 0]), aI n, aI n]
def LQuery (y : Nat) : List zE := [.inr (3, [.ref (y + 1), .ref (y + 2), .ref (y + 3), .ref (y + 4), .int 0]), aB0 50, aB0 50, aB0 50, aB0 50]
def LTape (y : Nat) : List zE := [.inr (7, [.ref (y + 1), .int (-1), .int 0]), aL 60]
def LReader (y : Nat) : List zE := [.inr (4, [.ref (y + 1), .int 0, .int 0, .int (-1)]), aB0 100]
def LRowI (y i : Nat) : List zE := .inr (5, [.ref (y + 1), .int 0]) :: aR 3 80 (fRI (y + 2) 1 i) :: List.replicate i eB
def LRows (y : Nat) : List zE := LRowI y 80
def LWorkI (y i : Nat) : List zE := .inr (8, [.ref (y + 1), .ref (y + 2), .ref (y + 3), .int 0]) :: aR 3 15 (fRI (y + 4) 1 i) :: aI 15 :: aI 15 :: List.replicate i eB
def LWork (y : Nat) : List zE := LWorkI y 15
def LGroups (y : Nat) : List zE := [.inr (1, [.ref (y + 1), .ref (y + 2), .int 0]), eB, aI 16]
def LState (y : Nat) : List zE := .inr (6, [.ref (y + 1), .ref (y + 83), .int 0, .ref (y + 84), .ref (y + 87), .ref (y + 90)]) :: ([] ++ LRows (y + 1) ++ [aI 10] ++ LPairs (y + 84) 6 ++ LPairs (y + 87) 10 ++ LPairs (y + 90) 8)
def LQs (y : Nat) : Nat → List zE
  | 0 => []
  | n + 1 => LQs y n ++ LQuery (y + 5 * n)
def LTs (y : Nat) : Nat → List zE
  | 0 => []
  | n + 1 => LTs y n ++ LTape (y + 2 * n)
def eRC (y : Nat) : zE := .inr (9, [.ref (y + 1), .ref (y + 94), .int 0, .ref (y + 187), .ref (y + 189), .int 0, .ref (y + 190), .ref (y + 191), .ref (y + 210), .ref (y + 229), .ref (y + 230), .ref (y + 233)])
def LRC1 (y : Nat) : List zE := [] ++ LState (y + 1) ++ LState (y + 94) ++ LReader (y + 187)
def LRC2 (y : Nat) : List zE := LWork (y + 191) ++ (LWork (y + 210) ++ ([eB] ++ (LGroups (y + 230) ++ LRows (y + 233))))
/-- with i queries and j tapes -/
def LRCi (y i j : Nat) : List zE := (eRC y :: LRC1 y) ++ (aR 4 8 (fRI (y + 315) 5 i) :: aR 5 6 (fRI (y + 355) 2 j) :: (LRC2 y ++ (LQs (y + 315) i ++ LTs (y + 355) j)))
def LRC (y : Nat) : List zE := LRCi y 8 6
theorem n_Pairs {y n : Nat} : (LPairs y n).length = 3 := rfl
theorem n_Query {y : Nat} : (LQuery y).length = 5 := rfl
theorem n_Tape {y : Nat} : (LTape y).length = 2 := rfl
theorem n_Reader {y : Nat} : (LReader y).length = 2 := rfl
theorem n_RowI {y i : Nat} : (LRowI y i).length = 2 + i := by simp only [LRowI, List.length_cons, List.length_replicate]; omega
theorem n_Rows {y : Nat} : (LRows y).length = 82 := n_RowI
theorem n_WorkI {y i : Nat} : (LWorkI y i).length = 4 + i := by simp only [LWorkI, List.length_cons, List.length_replicate]; omega
theorem n_Work {y : Nat} : (LWork y).length = 19 := n_WorkI
theorem n_Groups {y : Nat} : (LGroups y).length = 3 := rfl
theorem n_State {y : Nat} : (LState y).length = 93 := by simp only [LState, List.length_cons, List.length_append, List.length_nil, n_Rows, n_Pairs]
theorem n_Qs {y : Nat} : ∀ n, (LQs y n).length = 5 * n
  | 0 => rfl
  | n + 1 => by
    show (LQs y n ++ LQuery (y + 5 * n)).length = 5 * (n + 1)
    rw [List.length_append, n_Qs n, n_Query]
    omega
theorem n_Ts {y : Nat} : ∀ n, (LTs y n).length = 2 * n
  | 0 => rfl
  | n + 1 => by
    show (LTs y n ++ LTape (y + 2 * n)).length = 2 * (n + 1)
    rw [List.length_append, n_Ts n, n_Tape]
    omega
theorem n_RC1 {y : Nat} : (LRC1 y).length = 188 := by simp only [LRC1, List.length_append, List.length_nil, n_State, n_Reader]
theorem n_RC2 {y : Nat} : (LRC2 y).length = 124 := by simp only [LRC2, List.length_cons, List.length_append, List.length_nil, n_Work, n_Groups, n_Rows]
theorem n_RCi {y i j : Nat} : (LRCi y i j).length = 315 + 5 * i + 2 * j := by
  simp only [LRCi, List.length_cons, List.length_append, n_RC1, n_RC2, n_Qs, n_Ts]
  omega

