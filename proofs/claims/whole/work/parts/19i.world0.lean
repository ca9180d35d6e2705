/-! ===== the model's cells; nothing is held at the start ===== -/
theorem T_Mo {x o m : Nat} {T : List zE} (hm : m = x + o) (h : zSub T o (LMo m)) : tMo (shL x T) m := by
  subst hm
  refine ⟨shL_at (h 0 _ rfl), shL_at (h 1 _ rfl), shL_at (h 2 _ rfl), shL_at (h 3 _ rfl), shL_at (h 4 _ rfl), shL_at (h 5 _ rfl), shL_at (h 6 _ rfl), shL_at (h 7 _ rfl), shL_at (h 8 _ rfl), shL_at (h 9 _ rfl), shL_at (h 10 _ rfl), shL_at (h 11 _ rfl), shL_at (h 12 _ rfl), shL_at (h 13 _ rfl), shL_at (h 14 _ rfl), ?_, fun t ht => ?_, shL_at (h 22 _ rfl)⟩
  · have := shL_at (x := x) (h 15 _ rfl)
    rw [fRI_1] at this
    exact this
  · rcases (by omega : t = 0 ∨ t = 1 ∨ t = 2 ∨ t = 3 ∨ t = 4 ∨ t = 5) with rfl | rfl | rfl | rfl | rfl | rfl
    · exact shL_at (h 16 _ rfl)
    · exact shL_at (h 17 _ rfl)
    · exact shL_at (h 18 _ rfl)
    · exact shL_at (h 19 _ rfl)
    · exact shL_at (h 20 _ rfl)
    · exact shL_at (h 21 _ rfl)
def A0 : Ab := ((0, 0, 0, 0, 0), fun _ _ => 0, fun _ => 0)
def g0 : Nat → Int32 := fun _ => 0
def w0 : Wd := ((A0, g0), (false, A0, g0), (0, fun _ => (0, fun _ => (0, 0, 0, 0, 0, 0))), (0, g0), fun _ => (-1, 0, fun _ => 0))
theorem ok_g0 : gaOK A0 g0 0 := ⟨⟨by decide, by decide, by decide, by decide, by decide⟩, ⟨rfl, rfl, rfl, rfl, rfl⟩, fun j hj => absurd hj (Nat.not_lt_zero _), fun i hi => absurd hi (Nat.not_lt_zero _), fun i k _ hk => absurd hk (Nat.not_lt_zero _), fun i hi => absurd hi (Nat.not_lt_zero _), fun i hi => absurd hi (Nat.not_lt_zero _)⟩
theorem ok_w0 : wOK w0 := ⟨ok_g0, fun q => absurd q Bool.false_ne_true, ⟨Nat.zero_le _, fun k hk => absurd hk (Nat.not_lt_zero _)⟩, ⟨Nat.zero_le _, fun i hi => absurd hi (Nat.not_lt_zero _)⟩, fun t _ => ⟨Or.inl ⟨rfl, rfl⟩, Nat.zero_le _, fun _ i _ => Or.inl rfl⟩⟩
section RS
variable {x o : Nat} {T : List zE}
theorem R_Pairs {a cap z : Nat} (ha : a = x + o) (h : zSub T o (LPairs a cap)) : rPairs (stL x T) a cap 0 z g0 := by
  subst ha
  exact ⟨congrFun (stL_i (h 0 _ rfl)) 0, congrFun (stL_i (h 0 _ rfl)) 3, fun i hi => absurd hi (Nat.not_lt_zero _)⟩
theorem R_Rows {r : Nat} (hr : r = x + o) (h : zSub T o (LRows r)) : rRows (stL x T) r 0 (fun _ _ => 0) := by
  subst hr
  refine ⟨congrFun (stL_i (h 0 _ rfl)) 1, fun e he j hj => ?_⟩
  have hl := stL_l (x := x) (S_rowB h e _ (rep_at he))
  rw [show x + (o + 2 + e) = x + o + 2 + e by omega] at hl
  have h1 : zl (stL x T) (x + o + 2 + e) 0 = 0 := congrFun hl 0
  have h2 : zl (stL x T) (x + o + 2 + e) 1 = 0 := congrFun hl 1
  unfold bq
  rw [h1, h2, zw_0, zw_0, decide_eq_false (Nat.not_lt_zero _)]
  simp
theorem R_State {s : Nat} (hs : s = x + o) (h : zSub T o (LState s)) : rState (stL x T) s A0 g0 := by
  refine ⟨R_Rows (o := o + 1) (by omega) (S_st1 h), ?_, fun i hi => absurd hi (Nat.not_lt_zero _), R_Pairs (o := o + 84) (by omega) (S_st3 h), R_Pairs (o := o + 87) (by omega) (S_st4 h), R_Pairs (o := o + 90) (by omega) (S_st5 h)⟩
  subst hs
  exact congrFun (stL_i (h 0 _ rfl)) 2
end RS
theorem R_RC {x : Nat} {T : List zE} (h : zSub T 0 (LRC x)) : rRC (stL x T) x w0 := by
  have hx := stL_i (x := x) (j := 0) (S_rc0 h 0 _ rfl)
  have hi := R_State (x := x) rfl (S_img h)
  refine ⟨R_State rfl (S_now h), ⟨hi.2.2.2.1.1, hi.2.2.2.2.1.1, hi.2.2.2.2.2.1⟩, congrFun hx 2, fun q => absurd q Bool.false_ne_true, ⟨Nat.zero_le _, congrFun hx 5, fun k hk => absurd hk (Nat.not_lt_zero _)⟩, ⟨congrFun (stL_i (x := x) (S_rea h 0 _ rfl)) 1, fun i hi => absurd hi (Nat.not_lt_zero _)⟩, fun t ht => ?_⟩
  have hs := S_Ts 6 (S_rcT h) t ht
  have q1 := stL_i (x := x) (hs 0 _ rfl)
  have q2 := stL_j (x := x) (hs 1 _ rfl)
  rw [show x + (355 + 2 * t + 0) = x + 355 + 2 * t by omega] at q1
  rw [show x + (355 + 2 * t + 1) = x + 355 + 2 * t + 1 by omega] at q2
  exact ⟨congrFun q1 1, congrFun q1 2, fun i _ => congrFun q2 i⟩
theorem R_Mo {x o m : Nat} {T : List zE} (hm : m = x + o) (h : zSub T o (LMo m)) : rMo (stL x T) m w0 := by
  subst hm
  have hx := stL_i (x := x) (h 0 _ rfl)
  refine ⟨fun i _ => congrFun (stL_a (x := x) (h 1 _ rfl)) i, congrFun hx 3, fun q => absurd q Bool.false_ne_true, ⟨congrFun hx 4, fun k hk => absurd hk (Nat.not_lt_zero _)⟩, ⟨congrFun hx 13, fun i hi => absurd hi (Nat.not_lt_zero _)⟩, fun t ht => ⟨?_, congrFun (stL_a (x := x) (h 14 _ rfl)) t, fun i _ => ?_⟩⟩
  · have q : za (stL x T) (x + o + 13) t = fTS 6 t := congrFun (stL_a (x := x) (h 13 _ rfl)) t
    rw [q]
    exact if_pos ht
  · rcases (by omega : t = 0 ∨ t = 1 ∨ t = 2 ∨ t = 3 ∨ t = 4 ∨ t = 5) with rfl | rfl | rfl | rfl | rfl | rfl
    · exact congrFun (stL_j (x := x) (h 16 _ rfl)) i
    · exact congrFun (stL_j (x := x) (h 17 _ rfl)) i
    · exact congrFun (stL_j (x := x) (h 18 _ rfl)) i
    · exact congrFun (stL_j (x := x) (h 19 _ rfl)) i
    · exact congrFun (stL_j (x := x) (h 20 _ rfl)) i
    · exact congrFun (stL_j (x := x) (h 21 _ rfl)) i
/-- both, side by side -/
def LAll (x : Nat) : List zE := LRC x ++ LMo (x + 367)
theorem n_RC {x : Nat} : (LRC x).length = 367 := n_RCi
theorem g_RC {x : Nat} : (LRC x).all gE = true := by
  have hR : ∀ r, (LRows r).all gE = true := fun _ => rfl
  have hP : ∀ y n, (LPairs y n).all gE = true := fun _ _ => rfl
  have hW : ∀ y, (LWork y).all gE = true := fun _ => rfl
  have hS : ∀ y, (LState y).all gE = true := fun y => by
    simp only [LState, List.all_cons, List.all_append, List.all_nil, hR, hP, Bool.and_true, Bool.and_self]
    rfl
  have hQ : ∀ y n, (LQs y n).all gE = true := fun y n => by
    induction n with
    | zero => rfl
    | succ n ih => rw [LQs, List.all_append, ih]; rfl
  have hT : ∀ y n, (LTs y n).all gE = true := fun y n => by
    induction n with
    | zero => rfl
    | succ n ih => rw [LTs, List.all_append, ih]; rfl
  unfold LRC LRCi LRC1 LRC2
  simp only [List.all_cons, List.all_append, List.all_nil, hR, hW, hS, hQ, hT, Bool.and_true, Bool.and_self]
  rfl
theorem g_All {x : Nat} : (LAll x).all gE = true := by
  unfold LAll
  rw [List.all_append, g_RC]
  rfl
theorem S_All1 {x : Nat} : zSub (LAll x) 0 (LRC x) := zSub.l zSub.all
theorem S_All2 {x : Nat} : zSub (LAll x) 367 (LMo (x + 367)) := by
  have := zSub.r 367 (zSub.all (T := LAll x)) n_RC
  rw [Nat.zero_add] at this
  exact this

