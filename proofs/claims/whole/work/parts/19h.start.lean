/-! ===== a row of cells as a shape and a store; the world at the start ===== -/
def dOf : Value → Option (Option Nat)
  | .long _ => some none
  | .ref b => some (some b)
  | _ => none
def shOf : zE → zSh
  | .inr o => .inl (o.1, o.2.map dOf)
  | .inl (c, n, .inr (.inr (.inr (.inr f)))) => .inr (c, n, f)
  | .inl (c, n, _) => .inr (c, n, fNo)
def vI : Option zE → Nat → Int32
  | some (.inr o), k => match o.2[k]? with
    | some (.int v) => v
    | _ => 0
  | _, _ => 0
def vL : Option zE → Nat → Int64
  | some (.inr o), k => match o.2[k]? with
    | some (.long v) => v
    | _ => 0
  | _, _ => 0
def vA : Option zE → Nat → Int32
  | some (.inl (_, _, .inl f)), i => f i
  | _, _ => 0
def vJ : Option zE → Nat → Int64
  | some (.inl (_, _, .inr (.inl f))), i => f i
  | _, _ => 0
def gV : Value → Bool
  | .int _ => true
  | .long _ => true
  | .ref _ => true
  | _ => false
def gE : zE → Bool
  | .inr o => o.2.all gV
  | .inl (0, _, .inl _) => true
  | .inl (1, _, .inr (.inl _)) => true
  | .inl (2, _, .inl _) => true
  | .inl (_ + 3, _, .inr (.inr (.inr (.inr _)))) => true
  | _ => false
def shL (x : Nat) (T : List zE) : Nat → Option zSh := fun a => if x ≤ a then (T[a - x]?).map shOf else none
def stL (x : Nat) (T : List zE) : zSt := (fun a => vI (T[a - x]?), fun a => vL (T[a - x]?), fun a => vA (T[a - x]?), fun a => vJ (T[a - x]?))
theorem cell_ok {x a : Nat} {T : List zE} {e : zE} (hg : gE e = true) (h : T[a - x]? = some e) : zcell (stL x T) a (shOf e) = e := by
  have k1 : zi (stL x T) a = vI (some e) := by show vI (T[a - x]?) = _; rw [h]
  have k2 : zl (stL x T) a = vL (some e) := by show vL (T[a - x]?) = _; rw [h]
  have k3 : za (stL x T) a = vA (some e) := by show vA (T[a - x]?) = _; rw [h]
  have k4 : zj (stL x T) a = vJ (some e) := by show vJ (T[a - x]?) = _; rw [h]
  generalize stL x T = S at k1 k2 k3 k4
  match e, hg with
  | .inr (ci, fs), hg =>
    show Sum.inr (ci, zfs S a 0 (fs.map dOf)) = Sum.inr (ci, fs)
    congr 2
    apply List.ext_getElem?
    intro i
    rw [zfs_get, List.getElem?_map, Nat.zero_add]
    cases hi : fs[i]? with
    | none => rfl
    | some v =>
      have hv : gV v = true := List.all_eq_true.mp hg v (List.mem_of_getElem? hi)
      show some (zfv1 S a i (dOf v)) = some v
      congr 1
      match v, hv with
      | .int n, _ =>
        show Value.int (zi S a i) = _
        rw [k1]
        show Value.int (match fs[i]? with | some (.int v) => v | _ => 0) = _
        rw [hi]
      | .long n, _ =>
        show Value.long (zl S a i) = _
        rw [k2]
        show Value.long (match fs[i]? with | some (.long v) => v | _ => 0) = _
        rw [hi]
      | .ref b, _ => rfl
  | .inl (0, n, .inl f), _ =>
    show Sum.inl (0, n, Sum.inl (za S a)) = _
    rw [k3]
    rfl
  | .inl (1, n, .inr (.inl f)), _ =>
    show Sum.inl (1, n, Sum.inr (Sum.inl (zj S a))) = _
    rw [k4]
    rfl
  | .inl (2, n, .inl f), _ =>
    show Sum.inl (2, n, Sum.inl (za S a)) = _
    rw [k3]
    rfl
  | .inl (c + 3, n, .inr (.inr (.inr (.inr f)))), _ => rfl
theorem zls_sh {x : Nat} {T : List zE} (hg : T.all gE = true) : zls (fun _ => none) x T = zhp (shL x T) (stL x T) := by
  funext a
  unfold zls zhp shL
  by_cases h : x ≤ a
  · rw [if_pos h, if_pos h]
    cases he : T[a - x]? with
    | none => rfl
    | some e =>
      show some e = some (zcell (stL x T) a (shOf e))
      rw [cell_ok (List.all_eq_true.mp hg e (List.mem_of_getElem? he)) he]
  · rw [if_neg h, if_neg h]
    rfl
theorem shL_at {x j : Nat} {T : List zE} {e : zE} (h : T[j]? = some e) : shL x T (x + j) = some (shOf e) := by
  unfold shL
  rw [if_pos (Nat.le_add_right _ _), Nat.add_sub_cancel_left, h]
  rfl
theorem stL_i {x j : Nat} {T : List zE} {e : zE} (h : T[j]? = some e) : zi (stL x T) (x + j) = vI (some e) := by
  show vI (T[x + j - x]?) = _
  rw [Nat.add_sub_cancel_left, h]
theorem stL_l {x j : Nat} {T : List zE} {e : zE} (h : T[j]? = some e) : zl (stL x T) (x + j) = vL (some e) := by
  show vL (T[x + j - x]?) = _
  rw [Nat.add_sub_cancel_left, h]
theorem stL_a {x j : Nat} {T : List zE} {e : zE} (h : T[j]? = some e) : za (stL x T) (x + j) = vA (some e) := by
  show vA (T[x + j - x]?) = _
  rw [Nat.add_sub_cancel_left, h]
theorem stL_j {x j : Nat} {T : List zE} {e : zE} (h : T[j]? = some e) : zj (stL x T) (x + j) = vJ (some e) := by
  show vJ (T[x + j - x]?) = _
  rw [Nat.add_sub_cancel_left, h]
/-- part of a row of cells -/
def zSub (T : List zE) (o : Nat) (L : List zE) : Prop := ∀ (i : Nat) (e : zE), L[i]? = some e → T[o + i]? = some e
theorem zSub.all {T : List zE} : zSub T 0 T := fun i e h => by rw [Nat.zero_add]; exact h
theorem zSub.tl {T L : List zE} {o : Nat} {e : zE} (h : zSub T o (e :: L)) : zSub T (o + 1) L := fun i x hx => by
  rw [show o + 1 + i = o + (i + 1) by omega]
  exact h (i + 1) x hx
theorem zSub.l {T A B : List zE} {o : Nat} (h : zSub T o (A ++ B)) : zSub T o A := fun i x hx => h i x (by
  rw [List.getElem?_append_left (List.getElem?_eq_some_iff.mp hx).1]
  exact hx)
theorem zSub.r {T A B : List zE} {o : Nat} (n : Nat) (h : zSub T o (A ++ B)) (hn : A.length = n) : zSub T (o + n) B := fun i x hx => by
  subst hn
  rw [Nat.add_assoc]
  refine h _ x ?_
  rw [List.getElem?_append_right (Nat.le_add_right _ _), Nat.add_sub_cancel_left]
  exact hx
section TS
variable {x o y : Nat} {T : List zE}
theorem T_Pairs {n : Nat} (hy : y = x + o) (h : zSub T o (LPairs y n)) : tPairs (shL x T) y n := by
  subst hy
  exact ⟨shL_at (h 0 _ rfl), shL_at (h 1 _ rfl), shL_at (h 2 _ rfl)⟩
theorem T_Query (hy : y = x + o) (h : zSub T o (LQuery y)) : tQuery (shL x T) y := by
  subst hy
  exact ⟨shL_at (h 0 _ rfl), shL_at (h 1 _ rfl), shL_at (h 2 _ rfl), shL_at (h 3 _ rfl), shL_at (h 4 _ rfl)⟩
theorem T_Tape (hy : y = x + o) (h : zSub T o (LTape y)) : tTape (shL x T) y := by
  subst hy
  exact ⟨shL_at (h 0 _ rfl), shL_at (h 1 _ rfl)⟩
theorem T_Reader (hy : y = x + o) (h : zSub T o (LReader y)) : tReader (shL x T) y := by
  subst hy
  exact ⟨shL_at (h 0 _ rfl), shL_at (h 1 _ rfl)⟩
theorem T_Groups (hy : y = x + o) (h : zSub T o (LGroups y)) : tGroups (shL x T) y := by
  subst hy
  exact ⟨shL_at (h 0 _ rfl), shL_at (h 1 _ rfl), shL_at (h 2 _ rfl)⟩
theorem fRI_1 {b n : Nat} : fRI b 1 n = fun i => if i < n then some (b + i) else none := by
  funext i
  unfold fRI
  rw [Nat.one_mul]
theorem rep_at {e : zE} {n i : Nat} (h : i < n) : (List.replicate n e)[i]? = some e := by
  rw [List.getElem?_eq_getElem (by rw [List.length_replicate]; exact h), List.getElem_replicate]
theorem S_rowB (h : zSub T o (LRows y)) : zSub T (o + 2) (List.replicate 80 eB) := zSub.tl (zSub.tl h)
theorem T_Rows (hy : y = x + o) (h : zSub T o (LRows y)) : tRows (shL x T) y := by
  subst hy
  refine ⟨shL_at (h 0 _ rfl), ?_, fun e he => ?_⟩
  · have := shL_at (x := x) (h 1 _ rfl)
    rw [fRI_1] at this
    exact this
  · have := shL_at (x := x) (S_rowB h e _ (rep_at he))
    rw [show x + o + 2 + e = x + (o + 2 + e) by omega]
    exact this
theorem T_Work (hy : y = x + o) (h : zSub T o (LWork y)) : tWork (shL x T) y := by
  subst hy
  refine ⟨shL_at (h 0 _ rfl), ?_, shL_at (h 2 _ rfl), shL_at (h 3 _ rfl), fun e he => ?_⟩
  · have := shL_at (x := x) (h 1 _ rfl)
    rw [fRI_1] at this
    exact this
  · have := shL_at (x := x) (zSub.tl (zSub.tl (zSub.tl (zSub.tl h))) e _ (rep_at he))
    rw [show x + o + 4 + e = x + (o + 1 + 1 + 1 + 1 + e) by omega]
    exact this
theorem S_st0 (h : zSub T o (LState y)) : zSub T (o + 1) ([] ++ LRows (y + 1) ++ [aI 10] ++ LPairs (y + 84) 6 ++ LPairs (y + 87) 10 ++ LPairs (y + 90) 8) := zSub.tl h
theorem S_st1 (h : zSub T o (LState y)) : zSub T (o + 1) (LRows (y + 1)) := (S_st0 h).l.l.l.l
theorem S_st2 (h : zSub T o (LState y)) : zSub T (o + 83) [aI 10] := (S_st0 h).l.l.l.r 82 (by rw [List.length_append, n_Rows]; rfl)
theorem S_st3 (h : zSub T o (LState y)) : zSub T (o + 84) (LPairs (y + 84) 6) := (S_st0 h).l.l.r 83 (by simp only [List.length_append, n_Rows, List.length_cons, List.length_nil])
theorem S_st4 (h : zSub T o (LState y)) : zSub T (o + 87) (LPairs (y + 87) 10) := (S_st0 h).l.r 86 (by simp only [List.length_append, n_Rows, n_Pairs, List.length_cons, List.length_nil])
theorem S_st5 (h : zSub T o (LState y)) : zSub T (o + 90) (LPairs (y + 90) 8) := (S_st0 h).r 89 (by simp only [List.length_append, n_Rows, n_Pairs, List.length_cons, List.length_nil])
theorem T_State (hy : y = x + o) (h : zSub T o (LState y)) : tState (shL x T) y := by
  subst hy
  refine ⟨shL_at (h 0 _ rfl), T_Rows (by omega) (S_st1 h), ?_, T_Pairs (by omega) (S_st3 h), T_Pairs (by omega) (S_st4 h), T_Pairs (by omega) (S_st5 h)⟩
  have := shL_at (x := x) (S_st2 h 0 _ rfl)
  rw [show x + o + 83 = x + (o + 83 + 0) by omega]
  exact this
end TS
/-! RunColumns' cells -/
theorem S_rc0 {T : List zE} {y : Nat} (h : zSub T 0 (LRC y)) : zSub T 0 (eRC y :: LRC1 y) := zSub.l h
theorem S_rc1 {T : List zE} {y : Nat} (h : zSub T 0 (LRC y)) : zSub T 1 ([] ++ LState (y + 1) ++ LState (y + 94) ++ LReader (y + 187)) := zSub.tl (S_rc0 h)
theorem S_now {T : List zE} {y : Nat} (h : zSub T 0 (LRC y)) : zSub T 1 (LState (y + 1)) := (S_rc1 h).l.l
theorem S_img {T : List zE} {y : Nat} (h : zSub T 0 (LRC y)) : zSub T 94 (LState (y + 94)) := (S_rc1 h).l.r 93 (by rw [List.length_append, n_State]; rfl)
theorem S_rea {T : List zE} {y : Nat} (h : zSub T 0 (LRC y)) : zSub T 187 (LReader (y + 187)) := (S_rc1 h).r 186 (by simp only [List.length_append, n_State, List.length_nil])
theorem S_rc2 {T : List zE} {y : Nat} (h : zSub T 0 (LRC y)) : zSub T 189 (aR 4 8 (fRI (y + 315) 5 8) :: aR 5 6 (fRI (y + 355) 2 6) :: (LRC2 y ++ (LQs (y + 315) 8 ++ LTs (y + 355) 6))) := by
  have := zSub.r 189 h n_RC0
  rw [Nat.zero_add] at this
  exact this
theorem S_rc3 {T : List zE} {y : Nat} (h : zSub T 0 (LRC y)) : zSub T 191 (LRC2 y ++ (LQs (y + 315) 8 ++ LTs (y + 355) 6)) := zSub.tl (zSub.tl (S_rc2 h))
theorem S_rc4 {T : List zE} {y : Nat} (h : zSub T 0 (LRC y)) : zSub T 191 (LWork (y + 191) ++ (LWork (y + 210) ++ ([eB] ++ (LGroups (y + 230) ++ LRows (y + 233))))) := zSub.l (S_rc3 h)
theorem S_wk1 {T : List zE} {y : Nat} (h : zSub T 0 (LRC y)) : zSub T 191 (LWork (y + 191)) := zSub.l (S_rc4 h)
theorem S_rc5 {T : List zE} {y : Nat} (h : zSub T 0 (LRC y)) : zSub T 210 (LWork (y + 210) ++ ([eB] ++ (LGroups (y + 230) ++ LRows (y + 233)))) := zSub.r 19 (S_rc4 h) n_Work
theorem S_wk2 {T : List zE} {y : Nat} (h : zSub T 0 (LRC y)) : zSub T 210 (LWork (y + 210)) := zSub.l (S_rc5 h)
theorem S_rc6 {T : List zE} {y : Nat} (h : zSub T 0 (LRC y)) : zSub T 229 ([eB] ++ (LGroups (y + 230) ++ LRows (y + 233))) := zSub.r 19 (S_rc5 h) n_Work
theorem S_rc7 {T : List zE} {y : Nat} (h : zSub T 0 (LRC y)) : zSub T 230 (LGroups (y + 230) ++ LRows (y + 233)) := zSub.r 1 (S_rc6 h) rfl
theorem S_tri {T : List zE} {y : Nat} (h : zSub T 0 (LRC y)) : zSub T 233 (LRows (y + 233)) := zSub.r 3 (S_rc7 h) rfl
theorem S_rc8 {T : List zE} {y : Nat} (h : zSub T 0 (LRC y)) : zSub T 315 (LQs (y + 315) 8 ++ LTs (y + 355) 6) := zSub.r 124 (S_rc3 h) n_RC2
theorem S_Qs {T : List zE} {y o : Nat} : ∀ n, zSub T o (LQs y n) → ∀ k, k < n → zSub T (o + 5 * k) (LQuery (y + 5 * k))
  | 0, _, k, hk => absurd hk (Nat.not_lt_zero _)
  | n + 1, h, k, hk => by
    by_cases e : k = n
    · subst e
      exact zSub.r (5 * k) (A := LQs y k) h (n_Qs k)
    · exact S_Qs n (zSub.l (B := LQuery (y + 5 * n)) h) k (by omega)
theorem S_Ts {T : List zE} {y o : Nat} : ∀ n, zSub T o (LTs y n) → ∀ k, k < n → zSub T (o + 2 * k) (LTape (y + 2 * k))
  | 0, _, k, hk => absurd hk (Nat.not_lt_zero _)
  | n + 1, h, k, hk => by
    by_cases e : k = n
    · subst e
      exact zSub.r (2 * k) (A := LTs y k) h (n_Ts k)
    · exact S_Ts n (zSub.l (B := LTape (y + 2 * n)) h) k (by omega)
theorem S_rcT {T : List zE} {y : Nat} (h : zSub T 0 (LRC y)) : zSub T 355 (LTs (y + 355) 6) := zSub.r 40 (S_rc8 h) (n_Qs 8)
theorem T_RC {x : Nat} {T : List zE} (h : zSub T 0 (LRC x)) : tRC (shL x T) x := by
  refine ⟨shL_at (j := 0) (S_rc0 h 0 _ rfl), T_State rfl (S_now h), T_State rfl (S_img h), T_Reader rfl (S_rea h), ⟨?_, fun k hk => ?_⟩, ⟨?_, fun t ht => ?_⟩, T_Work rfl (S_wk1 h), T_Work rfl (S_wk2 h), ?_, T_Groups rfl (zSub.l (S_rc7 h)), T_Rows rfl (S_tri h)⟩
  · have := shL_at (x := x) (S_rc2 h 0 _ rfl)
    exact this
  · exact T_Query (by omega) (S_Qs 8 (zSub.l (S_rc8 h)) k hk)
  · have := shL_at (x := x) (S_rc2 h 1 _ rfl)
    exact this
  · exact T_Tape (by omega) (S_Ts 6 (S_rcT h) t ht)
  · exact shL_at (S_rc6 h 0 _ rfl)

