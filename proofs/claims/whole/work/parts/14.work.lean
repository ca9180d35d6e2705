/-! ===== queries as nodes behind their parts; Work ===== -/
abbrev Nd : Type := Nat → Nat × Nat × Nat × Nat × Nat × Nat
abbrev It : Type := (Nat → Bool) × Nat × Nat
abbrev nS (nd : Nd) (i : Nat) : Nat := (nd i).1
abbrev nC (nd : Nd) (i : Nat) : Nat := (nd i).2.1
abbrev nL (nd : Nd) (i : Nat) : Nat := (nd i).2.2.1
abbrev nH (nd : Nd) (i : Nat) : Nat := (nd i).2.2.2.1
abbrev nO (nd : Nd) (i : Nat) : Nat := (nd i).2.2.2.2.1
abbrev nT (nd : Nd) (i : Nat) : Nat := (nd i).2.2.2.2.2
/-- whether a row is so by a question -/
def lfB (v : Nat → Nat → Nat) (s c lo hi : Nat) : Nat → Bool := fun j => if s = 0 then true else if s = 1 then decide (v j c = lo) else if s = 2 then decide (v j c < lo) else decide (lo ≤ v j c ∧ v j c ≤ hi)
def lfI (n : Nat) (v : Nat → Nat → Nat) (s c lo hi : Nat) : It := (lfB v s c lo hi, if s = 0 then 0 else if s = 1 then runsN (lfB v s c lo hi) n else slN v n c 4, 1)
def semF (n : Nat) (v : Nat → Nat → Nat) (nd : Nd) : Nat → Nat → It
  | 0, _ => (fun _ => false, 0, 0)
  | k + 1, i => if nS nd i ≤ 3 then lfI n v (nS nd i) (nC nd i) (nL nd i) (nH nd i)
    else if nS nd i = 4 then (fun j => !(semF n v nd k (nO nd i)).1 j, (semF n v nd k (nO nd i)).2.1, (semF n v nd k (nO nd i)).2.2 + 1)
    else (fun j => if nS nd i = 5 then ((semF n v nd k (nO nd i)).1 j && (semF n v nd k (nT nd i)).1 j) else ((semF n v nd k (nO nd i)).1 j || (semF n v nd k (nT nd i)).1 j),
      (semF n v nd k (nO nd i)).2.1 + (semF n v nd k (nT nd i)).2.1 + runsN (semF n v nd k (nO nd i)).1 n + runsN (semF n v nd k (nT nd i)).1 n,
      max (semF n v nd k (nO nd i)).2.2 (semF n v nd k (nT nd i)).2.2 + 1)
/-- what a node is: its rows, cost, depth -/
def sem (n : Nat) (v : Nat → Nat → Nat) (nd : Nd) (i : Nat) : It := semF n v nd (i + 1) i
/-- node i takes its parts from the stack -/
def stepOK (nd : Nd) (stk : Nat → List Nat) (i : Nat) : Prop :=
  (nS nd i ≤ 3 ∧ stk (i + 1) = i :: stk i) ∨ (nS nd i = 4 ∧ ∃ a l, stk i = a :: l ∧ nO nd i = a ∧ stk (i + 1) = i :: l) ∨
  ((nS nd i = 5 ∨ nS nd i = 6) ∧ ∃ a b l, stk i = b :: a :: l ∧ nO nd i = a ∧ nT nd i = b ∧ stk (i + 1) = i :: l)
def ndOK (nd : Nd) (i : Nat) : Prop := nC nd i < 4 ∧ nL nd i < 16 ∧ nH nd i < 16
/-- N nodes that are a query, the last its root -/
def wfQ (nd : Nd) (N : Nat) (stk : Nat → List Nat) : Prop := 0 < N ∧ N ≤ 50 ∧ stk 0 = [] ∧ stk N = [N - 1] ∧ (∀ i, i ≤ N → (stk i).length ≤ 15) ∧ ∀ i, i < N → stepOK nd stk i ∧ ndOK nd i
theorem stk_lt {nd : Nd} {stk : Nat → List Nat} {N : Nat} (h0 : stk 0 = []) (h : ∀ i, i < N → stepOK nd stk i) : ∀ i, i ≤ N → ∀ a, a ∈ stk i → a < i
  | 0, _, a, ha => by rw [h0] at ha; cases ha
  | i + 1, hi, a, ha => by
    have ih := stk_lt h0 h i (by omega)
    rcases h i (by omega) with ⟨-, e⟩ | ⟨-, a1, l, e1, -, e⟩ | ⟨-, a1, b1, l, e1, -, -, e⟩
    · rw [e] at ha
      rcases List.mem_cons.mp ha with q | q
      · omega
      · have := ih a q; omega
    · rw [e] at ha
      rcases List.mem_cons.mp ha with q | q
      · omega
      · have := ih a (by rw [e1]; exact List.mem_cons_of_mem _ q); omega
    · rw [e] at ha
      rcases List.mem_cons.mp ha with q | q
      · omega
      · have := ih a (by rw [e1]; exact List.mem_cons_of_mem _ (List.mem_cons_of_mem _ q)); omega
theorem kid_lt {nd : Nd} {stk : Nat → List Nat} {N i : Nat} (h0 : stk 0 = []) (h : ∀ i, i < N → stepOK nd stk i) (hi : i < N) : (4 ≤ nS nd i → nO nd i < i) ∧ (5 ≤ nS nd i → nT nd i < i) := by
  have hl := stk_lt h0 h i (by omega)
  rcases h i hi with ⟨q, e⟩ | ⟨q, a1, l, e1, e2, e⟩ | ⟨q, a1, b1, l, e1, e2, e3, e⟩
  · exact ⟨fun _ => by omega, fun _ => by omega⟩
  · refine ⟨fun _ => ?_, fun _ => by omega⟩
    rw [e2]; exact hl a1 (by rw [e1]; exact List.mem_cons_self)
  · refine ⟨fun _ => ?_, fun _ => ?_⟩
    · rw [e2]; exact hl a1 (by rw [e1]; exact List.mem_cons_of_mem _ List.mem_cons_self)
    · rw [e3]; exact hl b1 (by rw [e1]; exact List.mem_cons_self)
theorem semF_st {n : Nat} {v : Nat → Nat → Nat} {nd : Nd} {N : Nat} (h : ∀ i, i < N → (4 ≤ nS nd i → nO nd i < i) ∧ (5 ≤ nS nd i → nT nd i < i)) : ∀ i, i < N → ∀ k, i < k → semF n v nd k i = sem n v nd i := by
  intro i
  induction i using Nat.strongRecOn with
  | _ i ih =>
    intro hi k hk
    obtain ⟨k, rfl⟩ : ∃ m, k = m + 1 := ⟨k - 1, by omega⟩
    unfold sem semF
    by_cases h3 : nS nd i ≤ 3
    · rw [if_pos h3, if_pos h3]
    · rw [if_neg h3, if_neg h3]
      have hO := (h i hi).1 (by omega)
      by_cases h4 : nS nd i = 4
      · rw [if_pos h4, if_pos h4, ih _ hO (by omega) k (by omega), ih _ hO (by omega) i hO]
      · have hT := (h i hi).2 (by omega)
        rw [if_neg h4, if_neg h4, ih _ hO (by omega) k (by omega), ih _ hO (by omega) i hO, ih _ hT (by omega) k (by omega), ih _ hT (by omega) i hT]
def notI (x : It) : It := (fun j => !x.1 j, x.2.1, x.2.2 + 1)
def joinI (n s : Nat) (x y : It) : It := (fun j => if s = 5 then (x.1 j && y.1 j) else (x.1 j || y.1 j), x.2.1 + y.2.1 + runsN x.1 n + runsN y.1 n, max x.2.2 y.2.2 + 1)
theorem sem_leaf {n : Nat} {v : Nat → Nat → Nat} {nd : Nd} {i : Nat} (h : nS nd i ≤ 3) : sem n v nd i = lfI n v (nS nd i) (nC nd i) (nL nd i) (nH nd i) := by
  unfold sem semF; rw [if_pos h]
theorem sem_not {n : Nat} {v : Nat → Nat → Nat} {nd : Nd} {N i : Nat} (h : ∀ i, i < N → (4 ≤ nS nd i → nO nd i < i) ∧ (5 ≤ nS nd i → nT nd i < i)) (hi : i < N) (h4 : nS nd i = 4) : sem n v nd i = notI (sem n v nd (nO nd i)) := by
  have hO := (h i hi).1 (by omega)
  rw [show sem n v nd i = semF n v nd (i + 1) i from rfl]
  unfold semF
  rw [if_neg (by omega), if_pos h4, semF_st h _ (by omega) i hO]
  rfl
theorem sem_join {n : Nat} {v : Nat → Nat → Nat} {nd : Nd} {N i : Nat} (h : ∀ i, i < N → (4 ≤ nS nd i → nO nd i < i) ∧ (5 ≤ nS nd i → nT nd i < i)) (hi : i < N) (h5 : 5 ≤ nS nd i) : sem n v nd i = joinI n (nS nd i) (sem n v nd (nO nd i)) (sem n v nd (nT nd i)) := by
  have hO := (h i hi).1 (by omega)
  have hT := (h i hi).2 (by omega)
  rw [show sem n v nd i = semF n v nd (i + 1) i from rfl]
  unfold semF
  rw [if_neg (by omega), if_neg (by omega), semF_st h _ (by omega) i hO, semF_st h _ (by omega) i hT]
  rfl
theorem sem_dep {n : Nat} {v : Nat → Nat → Nat} {nd : Nd} {N : Nat} (h : ∀ i, i < N → (4 ≤ nS nd i → nO nd i < i) ∧ (5 ≤ nS nd i → nT nd i < i)) : ∀ i, i < N → (sem n v nd i).2.2 ≤ i + 1 := by
  intro i
  induction i using Nat.strongRecOn with
  | _ i ih =>
    intro hi
    by_cases h3 : nS nd i ≤ 3
    · rw [sem_leaf h3]
      show 1 ≤ i + 1
      omega
    · have hO := (h i hi).1 (by omega)
      have i1 := ih _ hO (by omega)
      by_cases h4 : nS nd i = 4
      · rw [sem_not h hi h4]
        show (sem n v nd (nO nd i)).2.2 + 1 ≤ _
        omega
      · have hT := (h i hi).2 (by omega)
        have i2 := ih _ hT (by omega)
        rw [sem_join h hi (by omega)]
        show max (sem n v nd (nO nd i)).2.2 (sem n v nd (nT nd i)).2.2 + 1 ≤ _
        omega
/-! the class's way: steps, and a stack of what is so far -/
abbrev lstI (nd : Nd) (i : Nat) : Nat := if nS nd i = 2 then 0 else nL nd i
/-- one more than the greatest -/
abbrev gstI (nd : Nd) (i : Nat) : Nat := if nS nd i = 1 then nL nd i + 1 else if nS nd i = 2 then nL nd i else nH nd i + 1
def rQuery (S : zSt) (q N : Nat) (nd : Nd) : Prop := zi S q 4 = nI N ∧ ∀ i, i < N → za S (q + 1) i = nI (nS nd i) ∧ (nS nd i ≤ 3 → za S (q + 2) i = nI (nC nd i) ∧ za S (q + 3) i = nI (lstI nd i) ∧ za S (q + 4) i = nI (gstI nd i) - 1)
theorem rQuery.fr {S S' : zSt} {q N : Nat} {nd : Nd} {P : Nat → Prop} (h : rQuery S q N nd) (hf : frS S P S') (hq : ∀ b, q ≤ b → b < q + 5 → ¬ P b) : rQuery S' q N nd := by
  have e : ∀ k, k < 5 → S'.1 (q + k) = S.1 (q + k) ∧ S'.2.2.1 (q + k) = S.2.2.1 (q + k) := fun k hk => ⟨(hf _ (hq _ (by omega) (by omega))).1, (hf _ (hq _ (by omega) (by omega))).2.2.1⟩
  refine ⟨(congrFun (e 0 (by decide)).1 4).trans h.1, fun i hi => ?_⟩
  have e1 := congrFun (e 1 (by decide)).2 i
  have e2 := congrFun (e 2 (by decide)).2 i
  have e3 := congrFun (e 3 (by decide)).2 i
  have e4 := congrFun (e 4 (by decide)).2 i
  obtain ⟨g1, g2⟩ := h.2 i hi
  exact ⟨e1.trans g1, fun q => ⟨e2.trans (g2 q).1, e3.trans (g2 q).2.1, e4.trans (g2 q).2.2⟩⟩
abbrev fWk (w : Nat) : Nat → Option Nat := fun i => if i < 15 then some (w + 4 + i) else none
def tWork (sh : Nat → Option zSh) (w : Nat) : Prop := sh w = some (.inl (8, [some (some (w + 1)), some (some (w + 2)), some (some (w + 3)), none])) ∧ sh (w + 1) = some (.inr (3, 15, fWk w)) ∧ sh (w + 2) = some (.inr (0, 15, fNo)) ∧ sh (w + 3) = some (.inr (0, 15, fNo)) ∧ ∀ p, p < 15 → sh (w + 4 + p) = some kB
/-- item x at place p -/
def wIt (S : zSt) (w n p : Nat) (x : It) : Prop := rBits S (w + 4 + p) n x.1 ∧ za S (w + 2) p = nI x.2.1 ∧ za S (w + 3) p = nI x.2.2
def wSame (S S' : zSt) (w p : Nat) : Prop := S'.2.1 (w + 4 + p) = S.2.1 (w + 4 + p) ∧ za S' (w + 2) p = za S (w + 2) p ∧ za S' (w + 3) p = za S (w + 3) p
def wStk (S : zSt) (w n : Nat) (sm : Nat → It) : List Nat → Prop
  | [] => True
  | a :: l => wIt S w n l.length (sm a) ∧ wStk S w n sm l
theorem wIt.keep {S S' : zSt} {w n p : Nat} {x : It} (h : wIt S w n p x) (hs : wSame S S' w p) : wIt S' w n p x :=
  ⟨fun j hj => by rw [bq_lg hs.1]; exact h.1 j hj, hs.2.1.trans h.2.1, hs.2.2.trans h.2.2⟩
theorem wStk.keep {S S' : zSt} {w n : Nat} {sm : Nat → It} : ∀ {l : List Nat}, wStk S w n sm l → (∀ p, p < l.length → wSame S S' w p) → wStk S' w n sm l
  | [], _, _ => trivial
  | a :: l, h, hs => ⟨h.1.keep (hs _ (by simp)), wStk.keep h.2 (fun p hp => hs p (by simp; omega))⟩
def inWork (w : Nat) : Nat → Prop := fun b => w ≤ b ∧ b < w + 19
section WORK
variable {G : zG} {sh : Nat → Option zSh} {S : zSt} {w r q n c k h p i N : Nat} {v : Nat → Nat → Nat} {nd : Nd} {x y : It}
theorem C_Work_result (hT : tWork sh w) : zD G m_Work_result 1 sh [.ref w] S (some (.ref (w + 4))) S := by
  obtain ⟨t1, t2, t3, t4, t5⟩ := hT
  refine s_methD 0 ⟨p_Work, rfl, Nat.le_of_ble_eq_true rfl⟩ rfl (fun sz => ?_)
  refine z_aload_n dX8_result_0 rfl ?_
  refine s_getr f_Work_11 dX8_result_1 (by assumption) rfl ?_
  refine z_iconst 0 dX8_result_4 rfl ?_
  refine s_aald (by decide) dX8_result_5 t2 (by unfold vp_in; decide) rfl ?_
  refine z_areturn dX8_result_6 rfl ⟨Nat.le_refl _, Nat.le_refl _⟩ ?_
  exact ⟨rfl, rfl, rfl⟩
theorem C_Work_cost (hT : tWork sh w) : zD G m_Work_cost 1 sh [.ref w] S (some (.int (za S (w + 2) 0))) S := by
  obtain ⟨t1, t2, t3, t4, t5⟩ := hT
  refine s_methD 0 ⟨p_Work, rfl, Nat.le_of_ble_eq_true rfl⟩ rfl (fun sz => ?_)
  refine z_aload_n dX8_cost_0 rfl ?_
  refine s_getr f_Work_17 dX8_cost_1 (by assumption) rfl ?_
  refine z_iconst 0 dX8_cost_4 rfl ?_
  refine s_iald dX8_cost_5 t3 (by unfold vp_in; decide) ?_
  refine z_ireturn dX8_cost_6 rfl rfl ⟨Nat.le_refl _, Nat.le_refl _⟩ ?_
  exact ⟨rfl, rfl, rfl⟩
theorem C_Work_depth (hT : tWork sh w) : zD G m_Work_depth 1 sh [.ref w] S (some (.int (za S (w + 3) 0))) S := by
  obtain ⟨t1, t2, t3, t4, t5⟩ := hT
  refine s_methD 0 ⟨p_Work, rfl, Nat.le_of_ble_eq_true rfl⟩ rfl (fun sz => ?_)
  refine z_aload_n dX8_depth_0 rfl ?_
  refine s_getr f_Work_21 dX8_depth_1 (by assumption) rfl ?_
  refine z_iconst 0 dX8_depth_4 rfl ?_
  refine s_iald dX8_depth_5 t4 (by unfold vp_in; decide) ?_
  refine z_ireturn dX8_depth_6 rfl rfl ⟨Nat.le_refl _, Nat.le_refl _⟩ ?_
  exact ⟨rfl, rfl, rfl⟩
theorem C_Work_turn (hT : tWork sh w) (hRT : tRows sh r) (hz : zi S w 3 = nI (p + 1)) (hp : p < 15) (hx : wIt S w n p x) (hr : zi S r 1 = nI n) (hn : n ≤ 120) : zN G m_Work_turn 4 sh [.ref w, .ref r] S none (fun S' => frS S (inWork w) S' ∧ zi S' w 3 = nI (p + 1) ∧ wIt S' w n p (notI x) ∧ ∀ p', p' < p → wSame S S' w p') := by
  obtain ⟨t1, t2, t3, t4, t5⟩ := hT
  have cl : (nI p).toNatClampNeg = p := nI_clamp (by omega)
  have hs1 : nI (p + 1) - 1 = nI p := nI_pred p
  refine s_meth 0 ⟨p_Work, rfl, Nat.le_of_ble_eq_true rfl⟩ rfl (fun sz => ?_)
  refine z_aload_n dX8_turn_0 rfl ?_
  refine s_geti f_Work_24 dX8_turn_1 (by assumption) rfl ?_
  refine z_iconst 1 dX8_turn_4 rfl ?_
  refine z_icmp_ge 9 dX8_turn_5 (by decide) (fun c5 => ?_) (fun c5 => ?_)
  · refine z_aload_n dX8_turn_9 rfl ?_
    refine s_getr f_Work_11 dX8_turn_10 (by assumption) rfl ?_
    refine z_aload_n dX8_turn_13 rfl ?_
    refine s_geti f_Work_24 dX8_turn_14 (by assumption) rfl ?_
    refine z_iconst 1 dX8_turn_17 rfl ?_
    refine z_isub dX8_turn_18 ?_
    rw [hz, hs1]
    refine s_aald (by decide) dX8_turn_19 t2 (vp_in_nI hp (by decide)) (by rw [cl]; exact if_pos hp) ?_
    refine z_aload_n dX8_turn_20 rfl ?_
    refine s_geti f_Work_50 dX8_turn_21 hRT.1 rfl ?_
    rw [hr]
    refine n_callV0 l_Work_53 (C_Bits_turn (t5 p hp) (by omega)) (t5 p hp) dX8_turn_24 rfl rfl (Nat.le_of_ble_eq_true rfl) ⟨⟨by decide, by decide⟩, by decide, by decide⟩ (fun S24 q24 => ?_)
    refine z_aload_n dX8_turn_27 rfl ?_
    refine s_getr f_Work_21 dX8_turn_28 t1 rfl ?_
    refine z_aload_n dX8_turn_31 rfl ?_
    refine s_geti f_Work_24 dX8_turn_32 t1 rfl ?_
    refine z_iconst 1 dX8_turn_35 rfl ?_
    refine z_isub dX8_turn_36 ?_
    rw [show zi S24 w 3 = nI (p + 1) from (congrFun (congrFun q24.1 w) 3).trans hz, hs1]
    refine z_dup2 dX8_turn_37 rfl rfl ?_
    refine s_iald dX8_turn_38 t4 (vp_in_nI hp (by decide)) ?_
    refine z_iconst 1 dX8_turn_39 rfl ?_
    refine z_iadd dX8_turn_40 ?_
    refine s_iast dX8_turn_41 t4 (vp_in_nI hp (by decide)) ?_
    refine z_return dX8_turn_42 rfl ⟨Nat.le_refl _, Nat.le_refl _⟩ ?_
    rw [cl, show za S24 (w + 3) p = nI x.2.2 by rw [show za S24 = za S from q24.2.2.1]; exact hx.2.2, nI_1]
    refine ⟨rfl, _, rfl, rfl, ((q24.lg (P := inWork w) ⟨by omega, by omega⟩).fr).trans (frS.seta ⟨by omega, by omega⟩), (congrFun (congrFun q24.1 w) 3).trans hz, ⟨fun j hj => ?_, ?_, zup_same⟩, fun p' hp' => ⟨q24.2.1 _ (by omega), ?_, ?_⟩⟩
    · rw [show bq (zsa S24 (w + 3) p _) (w + 4 + p) j = bq S24 (w + 4 + p) j from rfl, q24.2.2.2.2 j hj]
      show (!bq S (w + 4 + p) j && decide (j < n)) = (decide (j < n) && !x.1 j)
      rw [hx.1 j hj]
      cases decide (j < n) <;> cases x.1 j <;> rfl
    · refine (zup_ne (by omega)).trans ?_
      rw [q24.2.2.1]; exact hx.2.1
    · refine (zup_ne (by omega)).trans ?_
      rw [q24.2.2.1]
    · refine (zup_ne (by omega)).trans ?_
      rw [q24.2.2.1]
  · rw [show zi S w 3 = nI (p + 1) from hz] at c5
    exact absurd (nI_le (a := 1) (by omega) (by omega)) c5
theorem C_Work_join {s : Nat} (hT : tWork sh w) (hRT : tRows sh r) (hz : zi S w 3 = nI (p + 2)) (hp : p + 1 < 15) (hx : wIt S w n p x) (hy : wIt S w n (p + 1) y) (hs : s = 5 ∨ s = 6) (hdx : x.2.2 < 2 ^ 31 ∧ y.2.2 < 2 ^ 31) (hr : zi S r 1 = nI n) (hn : n ≤ 120) : zN G m_Work_join 4 sh [.ref w, .int (nI s), .ref r] S none (fun S' => frS S (inWork w) S' ∧ zi S' w 3 = nI (p + 1) ∧ wIt S' w n p (joinI n s x y) ∧ ∀ p', p' < p → wSame S S' w p') := by
  obtain ⟨t1, t2, t3, t4, t5⟩ := hT
  have cl : (nI p).toNatClampNeg = p := nI_clamp (by omega)
  have cl1 : (nI (p + 1)).toNatClampNeg = p + 1 := nI_clamp (by omega)
  have hs1 : nI (p + 2) - 1 = nI (p + 1) := nI_pred (p + 1)
  have hs2 : nI (p + 2) - 2 = nI p := by
    rw [show (2 : Int32) = 1 + 1 from rfl, ← Int32.sub_sub, hs1]
    exact nI_pred p
  have hin0 : vp_in (nI p) 15 := vp_in_nI (by omega) (by decide)
  have hin1 : vp_in (nI (p + 1)) 15 := vp_in_nI (by omega) (by decide)
  have hb0 := t5 p (by omega)
  have hb1 := t5 (p + 1) (by omega)
  have hmax : (if nI x.2.2 < nI y.2.2 then nI y.2.2 else nI x.2.2) = nI (max x.2.2 y.2.2) := by
    by_cases q : x.2.2 < y.2.2
    · rw [if_pos (nI_lt q hdx.2), Nat.max_eq_right (by omega)]
    · rw [if_neg (fun z => q ((nI_ltI hdx.1 hdx.2).mp z)), Nat.max_eq_left (by omega)]
  have rx : runsN (bq S (w + 4 + p)) n = runsN x.1 n := hx.1.runs (by omega)
  have ry : runsN (bq S (w + 4 + (p + 1))) n = runsN y.1 n := hy.1.runs (by omega)
  have fin : ∀ (S1 S2 : zSt) (g : Nat → Bool), S1 = zsa (zsa S (w + 2) p (nI (joinI n s x y).2.1)) (w + 3) p (nI (joinI n s x y).2.2) → bqS S1 (w + 4 + p) g S2 → (∀ j, j < 128 → g j = (decide (j < n) && (joinI n s x y).1 j)) → frS S (inWork w) (zsi S2 w 3 (nI (p + 1))) ∧ zi (zsi S2 w 3 (nI (p + 1))) w 3 = nI (p + 1) ∧ wIt (zsi S2 w 3 (nI (p + 1))) w n p (joinI n s x y) ∧ ∀ p', p' < p → wSame S (zsi S2 w 3 (nI (p + 1))) w p' := by
    intro S1 S2 g e1 h2 hg
    subst e1
    refine ⟨(((frS.seta (P := inWork w) ⟨by omega, by omega⟩).trans (frS.seta ⟨by omega, by omega⟩)).trans (h2.lg (P := inWork w) ⟨by omega, by omega⟩).fr).trans (frS.seti ⟨by omega, by omega⟩), zi_si, ⟨fun j hj => ?_, ?_, ?_⟩, fun p' hp' => ⟨h2.2.1 _ (by omega), ?_, ?_⟩⟩
    · rw [show bq (zsi S2 w 3 _) (w + 4 + p) j = bq S2 (w + 4 + p) j from rfl, h2.2.2.2.2 j hj, hg j hj]
    · show S2.2.2.1 (w + 2) p = _
      rw [h2.2.2.1]
      exact (zup_ne (by omega)).trans zup_same
    · show S2.2.2.1 (w + 3) p = _
      rw [h2.2.2.1]
      exact zup_same
    · show S2.2.2.1 (w + 2) p' = _
      rw [h2.2.2.1]
      exact (zup_ne (by omega)).trans (zup_ne (by omega))
    · show S2.2.2.1 (w + 3) p' = _
      rw [h2.2.2.1]
      exact (zup_ne (by omega)).trans (zup_ne (by omega))
  refine s_meth 2 ⟨p_Work, rfl, Nat.le_of_ble_eq_true rfl⟩ rfl (fun sz => ?_)
  refine z_aload_n dX8_join_0 rfl ?_
  refine s_geti f_Work_24 dX8_join_1 (by assumption) rfl ?_
  refine z_iconst 2 dX8_join_4 rfl ?_
  refine z_icmp_ge 9 dX8_join_5 (by decide) (fun c5 => ?_) (fun c5 => ?_)
  · refine z_aload_n dX8_join_9 rfl ?_
    refine s_geti f_Work_24 dX8_join_10 (by assumption) rfl ?_
    refine z_iconst 2 dX8_join_13 rfl ?_
    refine z_isub dX8_join_14 ?_
    rw [hz, hs2]
    refine z_istore_n (lv' := [_, _, _, _, _]) dX8_join_15 (by decide) rfl ?_
    refine z_aload_n dX8_join_16 rfl ?_
    refine s_geti f_Work_24 dX8_join_17 (by assumption) rfl ?_
    refine z_iconst 1 dX8_join_20 rfl ?_
    refine z_isub dX8_join_21 ?_
    rw [hz, hs1]
    refine z_istore (lv' := [_, _, _, _, _]) dX8_join_22 (by decide) rfl ?_
    refine z_aload_n dX8_join_24 rfl ?_
    refine s_getr f_Work_17 dX8_join_25 (by assumption) rfl ?_
    refine z_iload_n dX8_join_28 rfl ?_
    refine z_dup2 dX8_join_29 rfl rfl ?_
    refine s_iald dX8_join_30 t3 hin0 ?_
    refine z_aload_n dX8_join_31 rfl ?_
    refine s_getr f_Work_17 dX8_join_32 (by assumption) rfl ?_
    refine z_iload dX8_join_35 rfl ?_
    refine s_iald dX8_join_37 t3 hin1 ?_
    refine z_aload_n dX8_join_38 rfl ?_
    refine s_getr f_Work_11 dX8_join_39 (by assumption) rfl ?_
    refine z_iload_n dX8_join_42 rfl ?_
    refine s_aald (by decide) dX8_join_43 t2 hin0 (by rw [cl]; exact if_pos (by omega)) ?_
    refine z_aload_n dX8_join_44 rfl ?_
    refine s_geti f_Work_50 dX8_join_45 hRT.1 rfl ?_
    rw [hr]
    refine s_callV1 l_Work_56 (C_Bits_runsWithin hb0 (by omega)) hb0 dX8_join_48 rfl rfl (Nat.le_of_ble_eq_true rfl) ⟨⟨by decide, by decide⟩, by decide, by decide⟩ ?_
    refine z_iadd dX8_join_51 ?_
    refine z_aload_n dX8_join_52 rfl ?_
    refine s_getr f_Work_11 dX8_join_53 (by assumption) rfl ?_
    refine z_iload dX8_join_56 rfl ?_
    refine s_aald (by decide) dX8_join_58 t2 hin1 (by rw [cl1]; exact if_pos (by omega)) ?_
    refine z_aload_n dX8_join_59 rfl ?_
    refine s_geti f_Work_50 dX8_join_60 hRT.1 rfl ?_
    rw [hr]
    refine s_callV1 l_Work_56 (C_Bits_runsWithin hb1 (by omega)) hb1 dX8_join_63 rfl rfl (Nat.le_of_ble_eq_true rfl) ⟨⟨by decide, by decide⟩, by decide, by decide⟩ ?_
    refine z_iadd dX8_join_66 ?_
    refine z_iadd dX8_join_67 ?_
    rw [cl, cl1, hx.2.1, hy.2.1, rx, ry, nI_add, nI_add, nI_add, show x.2.1 + (y.2.1 + runsN x.1 n + runsN y.1 n) = (joinI n s x y).2.1 by simp only [joinI]; omega]
    refine s_iast dX8_join_68 t3 hin0 ?_
    refine z_aload_n dX8_join_69 rfl ?_
    refine s_getr f_Work_21 dX8_join_70 (by assumption) rfl ?_
    refine z_iload_n dX8_join_73 rfl ?_
    refine z_aload_n dX8_join_74 rfl ?_
    refine s_getr f_Work_21 dX8_join_75 (by assumption) rfl ?_
    refine z_iload_n dX8_join_78 rfl ?_
    refine s_iald dX8_join_79 t4 hin0 ?_
    refine z_aload_n dX8_join_80 rfl ?_
    refine s_getr f_Work_21 dX8_join_81 (by assumption) rfl ?_
    refine z_iload dX8_join_84 rfl ?_
    refine s_iald dX8_join_86 t4 hin1 ?_
    rw [cl, cl1, show za (zsa S (w + 2) p (nI (joinI n s x y).2.1)) (w + 3) p = nI x.2.2 from (zup_ne (by omega)).trans hx.2.2, show za (zsa S (w + 2) p (nI (joinI n s x y).2.1)) (w + 3) (p + 1) = nI y.2.2 from (zup_ne (by omega)).trans hy.2.2]
    refine z_mmax x_Work_60 dX8_join_87 ⟨by decide, Nat.le_of_ble_eq_true rfl, Nat.zero_le _, Nat.zero_le _⟩ ?_
    refine z_iconst 1 dX8_join_90 rfl ?_
    refine z_iadd dX8_join_91 ?_
    rw [hmax, nI_1, show max x.2.2 y.2.2 + 1 = (joinI n s x y).2.2 from rfl]
    refine s_iast dX8_join_92 t4 hin0 ?_
    refine z_iload_n dX8_join_93 rfl ?_
    refine z_iconst 5 dX8_join_94 rfl ?_
    refine z_icmp_ne 117 dX8_join_95 (by decide) (fun c95 => ?_) (fun c95 => ?_)
    · have h6 : s = 6 := by
        rcases hs with rfl | rfl
        · exact absurd rfl c95
        · rfl
      rw [cl]
      refine z_aload_n dX8_join_117 rfl ?_
      refine s_getr f_Work_11 dX8_join_118 (by assumption) rfl ?_
      refine z_iload_n dX8_join_121 rfl ?_
      refine s_aald (by decide) dX8_join_122 t2 hin0 (by rw [cl]; exact if_pos (by omega)) ?_
      refine z_aload_n dX8_join_123 rfl ?_
      refine s_getr f_Work_11 dX8_join_124 (by assumption) rfl ?_
      refine z_iload dX8_join_127 rfl ?_
      refine s_aald (by decide) dX8_join_129 t2 hin1 (by rw [cl1]; exact if_pos (by omega)) ?_
      refine n_callV0 l_Work_70 (C_Bits_take hb0 hb1) hb0 dX8_join_130 rfl rfl (Nat.le_of_ble_eq_true rfl) ⟨⟨by decide, by decide⟩, by decide, by decide⟩ (fun S130 q130 => ?_)
      refine z_aload_n dX8_join_133 rfl ?_
      refine z_dup dX8_join_134 rfl ?_
      refine s_geti f_Work_24 dX8_join_135 (by assumption) rfl ?_
      refine z_iconst 1 dX8_join_138 rfl ?_
      refine z_isub dX8_join_139 ?_
      first
        | rw [show zi S111 w 3 = nI (p + 2) from (congrFun (congrFun q111.1 w) 3).trans hz, hs1]
        | rw [show zi S130 w 3 = nI (p + 2) from (congrFun (congrFun q130.1 w) 3).trans hz, hs1]
      refine s_puti f_Work_24 dX8_join_140 (by assumption) rfl ⟨rfl, rfl⟩ ?_
      first
        | refine z_return dX8_join_143 rfl ⟨Nat.le_refl _, Nat.le_refl _⟩ ⟨rfl, _, rfl, rfl, fin _ _ _ rfl q111 (fun j hj => ?_)⟩
          show (bq S (w + 4 + p) j && bq S (w + 4 + (p + 1)) j) = (decide (j < n) && if s = 5 then (x.1 j && y.1 j) else (x.1 j || y.1 j))
          rw [hx.1 j hj, hy.1 j hj, if_pos h5]
          cases decide (j < n) <;> cases x.1 j <;> cases y.1 j <;> rfl
        | refine z_return dX8_join_143 rfl ⟨Nat.le_refl _, Nat.le_refl _⟩ ⟨rfl, _, rfl, rfl, fin _ _ _ rfl q130 (fun j hj => ?_)⟩
          show (bq S (w + 4 + p) j || bq S (w + 4 + (p + 1)) j) = (decide (j < n) && if s = 5 then (x.1 j && y.1 j) else (x.1 j || y.1 j))
          rw [hx.1 j hj, hy.1 j hj, if_neg (by omega)]
          cases decide (j < n) <;> cases x.1 j <;> cases y.1 j <;> rfl
    · have h5 : s = 5 := (nI_eq (b := 5) (by omega) (by decide)).mp c95
      rw [cl]
      refine z_aload_n dX8_join_98 rfl ?_
      refine s_getr f_Work_11 dX8_join_99 (by assumption) rfl ?_
      refine z_iload_n dX8_join_102 rfl ?_
      refine s_aald (by decide) dX8_join_103 t2 hin0 (by rw [cl]; exact if_pos (by omega)) ?_
      refine z_aload_n dX8_join_104 rfl ?_
      refine s_getr f_Work_11 dX8_join_105 (by assumption) rfl ?_
      refine z_iload dX8_join_108 rfl ?_
      refine s_aald (by decide) dX8_join_110 t2 hin1 (by rw [cl1]; exact if_pos (by omega)) ?_
      refine n_callV0 l_Work_66 (C_Bits_keep hb0 hb1) hb0 dX8_join_111 rfl rfl (Nat.le_of_ble_eq_true rfl) ⟨⟨by decide, by decide⟩, by decide, by decide⟩ (fun S111 q111 => ?_)
      refine z_goto 133 dX8_join_114 (by decide) ?_
      refine z_aload_n dX8_join_133 rfl ?_
      refine z_dup dX8_join_134 rfl ?_
      refine s_geti f_Work_24 dX8_join_135 (by assumption) rfl ?_
      refine z_iconst 1 dX8_join_138 rfl ?_
      refine z_isub dX8_join_139 ?_
      first
        | rw [show zi S111 w 3 = nI (p + 2) from (congrFun (congrFun q111.1 w) 3).trans hz, hs1]
        | rw [show zi S130 w 3 = nI (p + 2) from (congrFun (congrFun q130.1 w) 3).trans hz, hs1]
      refine s_puti f_Work_24 dX8_join_140 (by assumption) rfl ⟨rfl, rfl⟩ ?_
      first
        | refine z_return dX8_join_143 rfl ⟨Nat.le_refl _, Nat.le_refl _⟩ ⟨rfl, _, rfl, rfl, fin _ _ _ rfl q111 (fun j hj => ?_)⟩
          show (bq S (w + 4 + p) j && bq S (w + 4 + (p + 1)) j) = (decide (j < n) && if s = 5 then (x.1 j && y.1 j) else (x.1 j || y.1 j))
          rw [hx.1 j hj, hy.1 j hj, if_pos h5]
          cases decide (j < n) <;> cases x.1 j <;> cases y.1 j <;> rfl
        | refine z_return dX8_join_143 rfl ⟨Nat.le_refl _, Nat.le_refl _⟩ ⟨rfl, _, rfl, rfl, fin _ _ _ rfl q130 (fun j hj => ?_)⟩
          show (bq S (w + 4 + p) j || bq S (w + 4 + (p + 1)) j) = (decide (j < n) && if s = 5 then (x.1 j && y.1 j) else (x.1 j || y.1 j))
          rw [hx.1 j hj, hy.1 j hj, if_neg (by omega)]
          cases decide (j < n) <;> cases x.1 j <;> cases y.1 j <;> rfl
  · rw [show zi S w 3 = nI (p + 2) from hz] at c5
    exact absurd (nI_le (a := 2) (by omega) (by omega)) c5
theorem gst_lt : ∀ g, g ≤ 16 → ∀ k, k ≤ 16 → ((nI g - 1 < nI k) ↔ g ≤ k) := by decide +kernel
/-- ones of a column's values from a to below b, of the rows below n -/
def rngB (v : Nat → Nat → Nat) (c a b : Nat) : Nat → Bool := fun j => decide (a ≤ v j c ∧ v j c < b)
theorem rngB_s (v : Nat → Nat → Nat) (c a k j : Nat) (h : a ≤ k) : rngB v c a (k + 1) j = (rngB v c a k j || decide (v j c = k)) := by
  unfold rngB
  by_cases q : v j c = k
  · simp [q, h]
  · rw [decide_eq_false q, Bool.or_false]
    exact decide_eq_decide.mpr (by omega)
theorem lfB_rng (v : Nat → Nat → Nat) {s c lo hi j : Nat} (h0 : s ≠ 0) (hv : v j c < 16) : rngB v c (if s = 2 then 0 else lo) (if s = 1 then lo + 1 else if s = 2 then lo else hi + 1) j = lfB v s c lo hi j := by
  unfold rngB lfB
  rw [if_neg h0]
  by_cases h1 : s = 1
  · subst h1
    simp
    by_cases q : v j c = lo
    · simp [q]
    · rw [decide_eq_false q]
      simp; omega
  · by_cases h2 : s = 2
    · subst h2; simp
    · simp [h1, h2]
      by_cases q : lo ≤ v j c
      · by_cases q2 : v j c ≤ hi
        · simp [q, q2]; omega
        · simp [q, q2]; omega
      · simp [q]
/-- in the middle of a question -/
def askS (S0 : zSt) (w n h : Nat) (f : Nat → Bool) (S : zSt) : Prop := frS S0 (inWork w) S ∧ zi S w 3 = nI (h + 1) ∧ rBits S (w + 4 + h) n f ∧ za S (w + 3) h = nI 1 ∧ ∀ p, p < h → wSame S0 S w p
theorem L_ask {F : zFin} {sz a b : Nat} {S0 : zSt} {st : Int32} (hT : tWork sh w) (hQT : tQuery sh q) (hRT : tRows sh r) (hd : (w + 19 ≤ r ∨ r + 82 ≤ w) ∧ (w + 19 ≤ q ∨ q + 5 ≤ w)) (hR : rRows S0 r n v) (hn : n ≤ 120) (hh : h < 15) (hc : c < 4) (hb : b ≤ 16) (hst : vp_in st 50) (hg : za S0 (q + 4) st.toNatClampNeg = nI b - 1)
    (kk : ∀ S' k, askS S0 w n h (rngB v c a b) S' → zW G m_Work_ask (zRm (4) 0 0) F 0 0 121 [some (.ref w), some (.ref q), some (.int st), some (.ref r), some (.int (nI c)), some (.ref (w + 4 + h)), some (.int (nI k))] [] (zhp sh S') sz) :
    ∀ d k S, b - k = d → a ≤ k → (k ≤ b ∨ k = a) → k ≤ 16 → askS S0 w n h (rngB v c a k) S → zW G m_Work_ask (zRm (4) 0 0) F 0 0 91 [some (.ref w), some (.ref q), some (.int st), some (.ref r), some (.int (nI c)), some (.ref (w + 4 + h)), some (.int (nI k))] [] (zhp sh S) sz := by
  obtain ⟨t1, t2, t3, t4, t5⟩ := hT
  intro d
  induction d with
  | zero =>
    intro k S h1 h2 h3 h4 h5
    have hge : za S (q + 4) st.toNatClampNeg = nI b - 1 := by rw [← hg]; exact congrFun (h5.1 (q + 4) (by unfold inWork; omega)).2.2.1 _
    refine z_iload dX8_ask_91 rfl ?_
    refine z_aload_n dX8_ask_93 rfl ?_
    refine s_getr f_Work_85 dX8_ask_94 hQT.1 rfl ?_
    refine z_iload_n dX8_ask_97 rfl ?_
    refine s_bald dX8_ask_98 hQT.2.2.2.2 hst ?_
    refine z_icmp_gt 121 dX8_ask_99 (by decide) (fun c99 => ?_) (fun c99 => ?_)
    · refine kk S k ⟨h5.1, h5.2.1, fun j hj => ?_, h5.2.2.2⟩
      rw [h5.2.2.1 j hj]
      congr 1
      unfold rngB
      exact decide_eq_decide.mpr (by omega)
    · rw [hge, gst_lt b hb k h4] at c99
      exact absurd (show b ≤ k by omega) c99
  | succ d ih =>
    intro k S h1 h2 h3 h4 h5
    have hge : za S (q + 4) st.toNatClampNeg = nI b - 1 := by rw [← hg]; exact congrFun (h5.1 (q + 4) (by unfold inWork; omega)).2.2.1 _
    have hR2 : rRows S r n v := hR.fr h5.1 (fun x h1 h2 => by unfold inWork; omega)
    have hbk := hRT.2.2 (c * 20 + k) (by omega)
    refine z_iload dX8_ask_91 rfl ?_
    refine z_aload_n dX8_ask_93 rfl ?_
    refine s_getr f_Work_85 dX8_ask_94 hQT.1 rfl ?_
    refine z_iload_n dX8_ask_97 rfl ?_
    refine s_bald dX8_ask_98 hQT.2.2.2.2 hst ?_
    refine z_icmp_gt 121 dX8_ask_99 (by decide) (fun c99 => ?_) (fun c99 => ?_)
    · rw [hge, gst_lt b hb k h4] at c99
      exact absurd c99 (by omega)
    · refine z_aload dX8_ask_102 rfl ?_
      refine z_aload_n dX8_ask_104 rfl ?_
      refine z_iload dX8_ask_105 rfl ?_
      refine z_iload dX8_ask_107 rfl ?_
      refine s_callV1 l_Work_88 (C_Rows_bitsOf hRT hc (by omega)) hRT.1 dX8_ask_109 rfl rfl (Nat.le_of_ble_eq_true rfl) ⟨⟨by decide, by decide⟩, by decide, by decide⟩ ?_
      refine n_callV0 l_Work_70 (C_Bits_take (t5 h hh) hbk) (t5 h hh) dX8_ask_112 rfl rfl (Nat.le_of_ble_eq_true rfl) ⟨⟨by decide, by decide⟩, by decide, by decide⟩ (fun S112 q112 => ?_)
      refine z_iinc (lv' := [_, _, _, _, _, _, _]) 1 dX8_ask_115 rfl (by decide) rfl rfl ?_
      refine z_goto 91 dX8_ask_118 (by decide) ?_
      rw [nI_1]
      refine ih (k + 1) _ (by omega) (by omega) (by omega) (by omega) ⟨h5.1.trans ((q112.lg (P := inWork w) ⟨by omega, by omega⟩).fr), (congrFun (congrFun q112.1 w) 3).trans h5.2.1, fun j hj => ?_, (congrFun (congrFun q112.2.2.1 (w + 3)) h).trans h5.2.2.2.1, fun p hp => ⟨(q112.2.1 _ (by omega)).trans (h5.2.2.2.2 p hp).1, (congrFun (congrFun q112.2.2.1 (w + 2)) p).trans (h5.2.2.2.2 p hp).2.1, (congrFun (congrFun q112.2.2.1 (w + 3)) p).trans (h5.2.2.2.2 p hp).2.2⟩⟩
      rw [q112.2.2.2.2 j hj]
      show (bq S (w + 4 + h) j || bq S (r + 2 + (c * 20 + k)) j) = _
      rw [h5.2.2.1 j hj, hR2.2 _ (by omega) j hj, kq_at _ (by omega), rngB_s v c a k j h2]
      unfold kb
      rw [if_pos (show k < 16 by omega)]
      cases decide (j < n) <;> cases rngB v c a k j <;> rfl
theorem C_Work_ask (hT : tWork sh w) (hQT : tQuery sh q) (hRT : tRows sh r) (hd : (w + 19 ≤ r ∨ r + 82 ≤ w) ∧ (w + 19 ≤ q ∨ q + 5 ≤ w)) (hz : zi S w 3 = nI h) (hh : h < 15) (hR : rRows S r n v) (hn : n ≤ 120) (hv : ∀ j, j < n → ∀ c, c < 4 → v j c < 16) (hQ : rQuery S q N nd) (hi : i < N) (hN : N ≤ 50) (h3 : nS nd i ≤ 3) (hok : ndOK nd i) : zN G m_Work_ask 4 sh [.ref w, .ref q, .int (nI i), .ref r] S none (fun S' => frS S (inWork w) S' ∧ zi S' w 3 = nI (h + 1) ∧ wIt S' w n h (lfI n v (nS nd i) (nC nd i) (nL nd i) (nH nd i)) ∧ ∀ p, p < h → wSame S S' w p) := by
  obtain ⟨t1, t2, t3, t4, t5⟩ := id hT
  obtain ⟨q1, q2, q3, q4, q5⟩ := id hQT
  have cl : (nI h).toNatClampNeg = h := nI_clamp (by omega)
  have cli : (nI i).toNatClampNeg = i := nI_clamp (by omega)
  have hin : vp_in (nI h) 15 := vp_in_nI hh (by decide)
  have hini : vp_in (nI i) 50 := vp_in_nI (by omega) (by decide)
  obtain ⟨g1, g2⟩ := hQ.2 i hi
  obtain ⟨g2, g3, g4⟩ := g2 h3
  obtain ⟨o1, o2, o3⟩ := hok
  have hpre : ∀ f S2, bqS (zsi (zsa (zsa S (w + 2) h 0) (w + 3) h 1) w 3 (nI (h + 1))) (w + 4 + h) f S2 → (∀ j, j < 128 → f j = (decide (j < n) && f j)) → askS S w n h f S2 := by
    intro f S2 e hf
    refine ⟨(((frS.seta (P := inWork w) ⟨by omega, by omega⟩).trans (frS.seta ⟨by omega, by omega⟩)).trans (frS.seti ⟨by omega, by omega⟩)).trans (e.lg (P := inWork w) ⟨by omega, by omega⟩).fr, ?_, fun j hj => (e.2.2.2.2 j hj).trans (hf j hj), ?_, fun p hp => ⟨e.2.1 _ (by omega), ?_, ?_⟩⟩
    · rw [show zi S2 = S2.1 from rfl, e.1]; exact zi_si
    · rw [show za S2 = S2.2.2.1 from rfl, e.2.2.1]; exact zup_same
    · rw [show za S2 = S2.2.2.1 from rfl, e.2.2.1]; exact (zup_ne (by omega)).trans (zup_ne (by omega))
    · rw [show za S2 = S2.2.2.1 from rfl, e.2.2.1]; exact (zup_ne (by omega)).trans (zup_ne (by omega))
  have hg16 : gstI nd i ≤ 16 := by
    unfold gstI
    split
    · omega
    · split <;> omega
  have hl16 : lstI nd i ≤ 16 := by unfold lstI; split <;> omega
  refine s_meth 3 ⟨p_Work, rfl, Nat.le_of_ble_eq_true rfl⟩ rfl (fun sz => ?_)
  have fin : ∀ S' k, askS S w n h (rngB v (nC nd i) (lstI nd i) (gstI nd i)) S' → nS nd i ≠ 0 → zW G m_Work_ask (zRm 4 0 0) (zFm G (zP sh sz (fun r' S' => r' = none ∧ frS S (inWork w) S' ∧ zi S' w 3 = nI (h + 1) ∧ wIt S' w n h (lfI n v (nS nd i) (nC nd i) (nL nd i) (nH nd i)) ∧ ∀ p, p < h → wSame S S' w p)) 0 0) 0 0 121 [some (.ref w), some (.ref q), some (.int (nI i)), some (.ref r), some (.int (nI (nC nd i))), some (.ref (w + 4 + h)), some (.int (nI k))] [] (zhp sh S') sz := by
    intro S' k hk hs0
    have hR2 : rRows S' r n v := hR.fr hk.1 (fun x h1 h2 => by unfold inWork; omega)
    have gs : za S' (q + 1) i = nI (nS nd i) := by rw [← g1]; exact congrFun (hk.1 (q + 1) (by unfold inWork; omega)).2.2.1 _
    have hbits : rBits S' (w + 4 + h) n (lfB v (nS nd i) (nC nd i) (nL nd i) (nH nd i)) := fun j hj => by
      rw [hk.2.2.1 j hj]
      by_cases hjn : j < n
      · congr 1
        exact lfB_rng v hs0 (hv j hjn _ o1)
      · simp [hjn]
    have e1 : nI (h + 1) - 1 = nI h := nI_pred h
    have done : ∀ z : Nat, (lfI n v (nS nd i) (nC nd i) (nL nd i) (nH nd i)).2.1 = z → frS S (inWork w) (zsa S' (w + 2) h (nI z)) ∧ zi (zsa S' (w + 2) h (nI z)) w 3 = nI (h + 1) ∧ wIt (zsa S' (w + 2) h (nI z)) w n h (lfI n v (nS nd i) (nC nd i) (nL nd i) (nH nd i)) ∧ ∀ p, p < h → wSame S (zsa S' (w + 2) h (nI z)) w p := by
      intro z hz2
      refine ⟨hk.1.trans (frS.seta ⟨by omega, by omega⟩), hk.2.1, ⟨hbits, ?_, (zup_ne (by omega)).trans hk.2.2.2.1⟩, fun p hp => ⟨(hk.2.2.2.2 p hp).1, (zup_ne (by omega)).trans (hk.2.2.2.2 p hp).2.1, (zup_ne (by omega)).trans (hk.2.2.2.2 p hp).2.2⟩⟩
      rw [hz2]; exact zup_same
    refine z_aload_n dX8_ask_121 rfl ?_
    refine s_getr f_Work_17 dX8_ask_122 t1 rfl ?_
    refine z_aload_n dX8_ask_125 rfl ?_
    refine s_geti f_Work_24 dX8_ask_126 t1 rfl ?_
    rw [hk.2.1]
    refine z_iconst 1 dX8_ask_129 rfl ?_
    refine z_isub dX8_ask_130 ?_
    rw [e1]
    refine z_aload_n dX8_ask_131 rfl ?_
    refine s_getr f_Work_34 dX8_ask_132 q1 rfl ?_
    refine z_iload_n dX8_ask_135 rfl ?_
    refine s_bald dX8_ask_136 q2 hini ?_
    refine z_iconst 1 dX8_ask_137 rfl ?_
    rw [cli, gs]
    refine z_icmp_ne 153 dX8_ask_138 (by decide) (fun c138 => ?_) (fun c138 => ?_)
    · have hs1 : nS nd i ≠ 1 := fun e => c138 (by rw [e]; rfl)
      refine z_aload_n dX8_ask_153 rfl ?_
      refine z_iload dX8_ask_154 rfl ?_
      refine s_callV1 l_Work_92 (C_Rows_runsOfSlices hRT hR2 (by omega) o1) hRT.1 dX8_ask_156 rfl rfl (Nat.le_of_ble_eq_true rfl) ⟨⟨by decide, by decide⟩, by decide, by decide⟩ ?_
      refine s_iast dX8_ask_159 t3 hin ?_
      refine z_return dX8_ask_160 rfl ⟨Nat.le_refl _, Nat.le_refl _⟩ ?_
      rw [cl]
      first
        | (rw [hbits.runs (by omega)]; exact ⟨rfl, _, rfl, rfl, done _ (by unfold lfI; rw [if_neg hs0, if_pos hs1])⟩)
        | exact ⟨rfl, _, rfl, rfl, done _ (by unfold lfI; rw [if_neg hs0, if_neg hs1])⟩
    · have hs1 : nS nd i = 1 := (nI_eq (b := 1) (by omega) (by decide)).mp c138
      refine z_aload dX8_ask_141 rfl ?_
      refine z_aload_n dX8_ask_143 rfl ?_
      refine s_geti f_Work_50 dX8_ask_144 hRT.1 rfl ?_
      rw [show zi S' r 1 = nI n from hR2.1]
      refine s_callV1 l_Work_56 (C_Bits_runsWithin (t5 h hh) (by omega)) (t5 h hh) dX8_ask_147 rfl rfl (Nat.le_of_ble_eq_true rfl) ⟨⟨by decide, by decide⟩, by decide, by decide⟩ ?_
      refine z_goto 159 dX8_ask_150 (by decide) ?_
      refine s_iast dX8_ask_159 t3 hin ?_
      refine z_return dX8_ask_160 rfl ⟨Nat.le_refl _, Nat.le_refl _⟩ ?_
      rw [cl]
      first
        | (rw [hbits.runs (by omega)]; exact ⟨rfl, _, rfl, rfl, done _ (by unfold lfI; rw [if_neg hs0, if_pos hs1])⟩)
        | exact ⟨rfl, _, rfl, rfl, done _ (by unfold lfI; rw [if_neg hs0, if_neg hs1])⟩
  refine z_aload_n dX8_ask_0 rfl ?_
  refine s_geti f_Work_24 dX8_ask_1 (by assumption) rfl ?_
  refine z_bipush 15 dX8_ask_4 (by decide) ?_
  refine z_icmp_lt 10 dX8_ask_6 (by decide) (fun c6 => ?_) (fun c6 => ?_)
  · refine z_aload_n dX8_ask_10 rfl ?_
    refine s_getr f_Work_73 dX8_ask_11 (by assumption) rfl ?_
    refine z_iload_n dX8_ask_14 rfl ?_
    refine s_bald dX8_ask_15 q3 hini ?_
    rw [cli, g2]
    refine z_istore (lv' := [_, _, _, _, _, _, _]) dX8_ask_16 (by decide) rfl ?_
    refine z_aload_n dX8_ask_18 rfl ?_
    refine s_getr f_Work_11 dX8_ask_19 (by assumption) rfl ?_
    refine z_aload_n dX8_ask_22 rfl ?_
    refine s_geti f_Work_24 dX8_ask_23 (by assumption) rfl ?_
    rw [hz]
    refine s_aald (by decide) dX8_ask_26 t2 hin (by rw [cl]; exact if_pos hh) ?_
    refine z_astore (lv' := [_, _, _, _, _, _, _]) dX8_ask_27 (by decide) rfl ?_
    refine z_aload_n dX8_ask_29 rfl ?_
    refine s_getr f_Work_17 dX8_ask_30 (by assumption) rfl ?_
    refine z_aload_n dX8_ask_33 rfl ?_
    refine s_geti f_Work_24 dX8_ask_34 (by assumption) rfl ?_
    rw [hz]
    refine z_iconst 0 dX8_ask_37 rfl ?_
    refine s_iast dX8_ask_38 t3 hin ?_
    refine z_aload_n dX8_ask_39 rfl ?_
    refine s_getr f_Work_21 dX8_ask_40 (by assumption) rfl ?_
    refine z_aload_n dX8_ask_43 rfl ?_
    refine s_geti f_Work_24 dX8_ask_44 (by assumption) rfl ?_
    rw [hz]
    refine z_iconst 1 dX8_ask_47 rfl ?_
    refine s_iast dX8_ask_48 t4 hin ?_
    refine z_aload_n dX8_ask_49 rfl ?_
    refine z_dup dX8_ask_50 rfl ?_
    refine s_geti f_Work_24 dX8_ask_51 (by assumption) rfl ?_
    refine z_iconst 1 dX8_ask_54 rfl ?_
    refine z_iadd dX8_ask_55 ?_
    rw [hz, cl, nI_1]
    refine s_puti f_Work_24 dX8_ask_56 (by assumption) rfl ⟨rfl, rfl⟩ ?_
    refine z_aload_n dX8_ask_59 rfl ?_
    refine s_getr f_Work_34 dX8_ask_60 (by assumption) rfl ?_
    refine z_iload_n dX8_ask_63 rfl ?_
    refine s_bald dX8_ask_64 q2 hini ?_
    rw [cli, show za (zsi (zsa (zsa S (w + 2) h 0) (w + 3) h 1) w 3 (nI (h + 1))) (q + 1) i = nI (nS nd i) from ((zup_ne (by omega)).trans (zup_ne (by omega))).trans g1]
    refine z_if_ne 78 dX8_ask_65 (by decide) (fun c65 => ?_) (fun c65 => ?_)
    · have hs0 : nS nd i ≠ 0 := fun e => c65 (by rw [e]; rfl)
      refine z_aload dX8_ask_78 rfl ?_
      refine n_callV0 l_Work_79 (C_Bits_becomeZeros (t5 h hh)) (t5 h hh) dX8_ask_80 rfl rfl (Nat.le_of_ble_eq_true rfl) ⟨⟨by decide, by decide⟩, by decide, by decide⟩ (fun S80 q80 => ?_)
      refine z_aload_n dX8_ask_83 rfl ?_
      refine s_getr f_Work_82 dX8_ask_84 q1 rfl ?_
      refine z_iload_n dX8_ask_87 rfl ?_
      refine s_bald dX8_ask_88 q4 hini ?_
      rw [cli, show za S80 (q + 3) i = nI (lstI nd i) by rw [show za S80 = S80.2.2.1 from rfl, q80.2.2.1]; exact ((zup_ne (by omega)).trans (zup_ne (by omega))).trans g3]
      refine z_istore (lv' := [_, _, _, _, _, _, _]) dX8_ask_89 (by decide) rfl ?_
      have ha := hpre _ _ q80 (fun j hj => by simp)
      refine L_ask (S0 := S) (a := lstI nd i) (b := gstI nd i) hT hQT hRT hd hR hn hh o1 hg16 hini (by rw [cli]; exact g4) (fun S' k hk => ?_) _ (lstI nd i) S80 rfl (Nat.le_refl _) (Or.inr rfl) hl16 ⟨ha.1, ha.2.1, fun j hj => ?_, ha.2.2.2⟩
      · exact fin S' k hk hs0
      · rw [ha.2.2.1 j hj]
        unfold rngB
        rw [decide_eq_false (show ¬ (lstI nd i ≤ v j (nC nd i) ∧ v j (nC nd i) < lstI nd i) by omega)]
    · have hs0 : nS nd i = 0 := (nI_eq (b := 0) (by omega) (by decide)).mp c65
      refine z_aload dX8_ask_68 rfl ?_
      refine z_aload_n dX8_ask_70 rfl ?_
      refine s_geti f_Work_50 dX8_ask_71 hRT.1 rfl ?_
      rw [show zi (zsi (zsa (zsa S (w + 2) h 0) (w + 3) h 1) w 3 (nI (h + 1))) r 1 = nI n from (zi_sin (by omega)).trans hR.1]
      refine n_callV0 l_Work_76 (C_Bits_becomeOnes (t5 h hh) (n := n) (by omega)) (t5 h hh) dX8_ask_74 rfl rfl (Nat.le_of_ble_eq_true rfl) ⟨⟨by decide, by decide⟩, by decide, by decide⟩ (fun S74 q74 => ?_)
      refine z_return dX8_ask_77 rfl ⟨Nat.le_refl _, Nat.le_refl _⟩ ?_
      have ha := hpre _ _ q74 (fun j hj => by cases decide (j < n) <;> rfl)
      refine ⟨rfl, _, rfl, rfl, ha.1, ha.2.1, ⟨fun j hj => ?_, ?_, ha.2.2.2.1⟩, ha.2.2.2.2⟩
      · rw [ha.2.2.1 j hj, hs0]
        show (decide (j < n) && decide (j < n)) = (decide (j < n) && true)
        cases decide (j < n) <;> rfl
      · rw [hs0, show za S74 = S74.2.2.1 from rfl, q74.2.2.1]
        exact (zup_ne (by omega)).trans zup_same
  · rw [show zi S w 3 = nI h from hz] at c6
    exact absurd (nI_lt (b := 15) hh (by decide)) c6
/-- the items of a stack of nodes, all as sm tells -/
def goS (S0 : zSt) (w n : Nat) (sm : Nat → It) (l : List Nat) (S : zSt) : Prop := frS S0 (inWork w) S ∧ zi S w 3 = nI l.length ∧ wStk S w n sm l
theorem L_go {F : zFin} {sz : Nat} {S0 : zSt} {stk : Nat → List Nat} (hT : tWork sh w) (hQT : tQuery sh q) (hRT : tRows sh r) (hd : (w + 19 ≤ r ∨ r + 82 ≤ w) ∧ (w + 19 ≤ q ∨ q + 5 ≤ w)) (hR : rRows S0 r n v) (hn : n ≤ 120) (hv : ∀ j, j < n → ∀ c, c < 4 → v j c < 16) (hQ : rQuery S0 q N nd) (hw : wfQ nd N stk)
    (kk : ∀ S' z, goS S0 w n (sem n v nd) (stk N) S' → zW G m_Work_goThrough (zRm (5) 0 0) F 0 0 73 [some (.ref w), some (.ref q), some (.ref r), some (.int (nI N)), z] [] (zhp sh S') sz) :
    ∀ d i S z, N - i = d → i ≤ N → goS S0 w n (sem n v nd) (stk i) S → zW G m_Work_goThrough (zRm (5) 0 0) F 0 0 7 [some (.ref w), some (.ref q), some (.ref r), some (.int (nI i)), z] [] (zhp sh S) sz := by
  obtain ⟨w0, wN, wst0, wstN, wlen, wok⟩ := hw
  have hk := fun i hi => kid_lt wst0 (fun i hi => (wok i hi).1) (i := i) hi
  intro d
  induction d with
  | zero =>
    intro i S z h1 h2 h3
    have hi : i = N := by omega
    subst hi
    have hQ2 : zi S q 4 = nI i := (hQ.fr h3.1 (fun b b1 b2 => by unfold inWork; omega)).1
    refine z_iload_n dX8_goThrough_7 rfl ?_
    refine z_aload_n dX8_goThrough_8 rfl ?_
    refine s_geti f_Work_29 dX8_goThrough_9 hQT.1 rfl ?_
    refine z_icmp_ge 73 dX8_goThrough_12 (by decide) (fun c12 => ?_) (fun c12 => ?_)
    · exact kk S z h3
    · rw [hQ2] at c12
      exact absurd (nI_le (Nat.le_refl _) (by omega)) c12
  | succ d ih =>
    intro i S z h1 h2 h3
    have hQ2 : rQuery S q N nd := hQ.fr h3.1 (fun b b1 b2 => by unfold inWork; omega)
    have hR2 : rRows S r n v := hR.fr h3.1 (fun x h1 h2 => by unfold inWork; omega)
    have cli : (nI i).toNatClampNeg = i := nI_clamp (by omega)
    obtain ⟨g1, -⟩ := hQ2.2 i (by omega)
    obtain ⟨ok1, ok2⟩ := wok i (by omega)
    have hl := wlen (i + 1) (by omega)
    have hl0 := wlen i (by omega)
    have hsd := sem_dep (n := n) (v := v) hk
    have hlt := stk_lt wst0 (fun i hi => (wok i hi).1) i (by omega)
    have hs7 : nS nd i ≤ 6 := by
      rcases ok1 with ⟨q, -⟩ | ⟨q, -⟩ | ⟨q, -⟩ <;> omega
    have next : ∀ S' z', goS S0 w n (sem n v nd) (stk (i + 1)) S' → zW G m_Work_goThrough (zRm 5 0 0) F 0 0 67 [some (.ref w), some (.ref q), some (.ref r), some (.int (nI i)), z'] [] (zhp sh S') sz := by
      intro S' z' hg
      refine z_iinc (lv' := [_, _, _, _, _]) 1 dX8_goThrough_67 rfl (by decide) rfl rfl ?_
      refine z_goto 7 dX8_goThrough_70 (by decide) ?_
      rw [nI_1]
      exact ih (i + 1) S' z' (by omega) (by omega) hg
    refine z_iload_n dX8_goThrough_7 rfl ?_
    refine z_aload_n dX8_goThrough_8 rfl ?_
    refine s_geti f_Work_29 dX8_goThrough_9 hQT.1 rfl ?_
    refine z_icmp_ge 73 dX8_goThrough_12 (by decide) (fun c12 => ?_) (fun c12 => ?_)
    · rw [hQ2.1] at c12
      exact absurd c12 (nI_ge (by omega) (by omega))
    · refine z_aload_n dX8_goThrough_15 rfl ?_
      refine s_getr f_Work_34 dX8_goThrough_16 hQT.1 rfl ?_
      refine z_iload_n dX8_goThrough_19 rfl ?_
      refine s_bald dX8_goThrough_20 hQT.2.1 (vp_in_nI (by omega) (by decide)) ?_
      rw [cli, g1]
      refine z_istore (lv' := [_, _, _, _, _]) dX8_goThrough_21 (by decide) rfl ?_
      refine z_iload dX8_goThrough_23 rfl ?_
      refine z_iconst 4 dX8_goThrough_25 rfl ?_
      refine z_icmp_ne 37 dX8_goThrough_26 (by decide) (fun c26 => ?_) (fun c26 => ?_)
      · have h4 : nS nd i ≠ 4 := fun e => c26 (by rw [e]; rfl)
        refine z_iload dX8_goThrough_37 rfl ?_
        refine z_iconst 5 dX8_goThrough_39 rfl ?_
        refine z_icmp_eq 50 dX8_goThrough_40 (by decide) (fun c40 => ?_) (fun c40 => ?_)
        · have h5 : nS nd i = 5 ∨ nS nd i = 6 := Or.inl ((nI_eq (b := 5) (by omega) (by decide)).mp c40)
          obtain ⟨a, b, l, e1, e2, e2b, e3⟩ : ∃ a b l, stk i = b :: a :: l ∧ nO nd i = a ∧ nT nd i = b ∧ stk (i + 1) = i :: l := by
            rcases ok1 with ⟨q, -⟩ | ⟨q, -⟩ | ⟨-, q⟩
            · omega
            · omega
            · exact q
          have ha1 : a < i := hlt a (by rw [e1]; exact List.mem_cons_of_mem _ List.mem_cons_self)
          have hb1 : b < i := hlt b (by rw [e1]; exact List.mem_cons_self)
          rw [e1] at h3 hl0
          rw [e3] at hl next
          have hp : l.length + 1 < 15 := by simp at hl0; omega
          have da := hsd a (by omega)
          have db := hsd b (by omega)
          refine z_aload_n dX8_goThrough_50 rfl ?_
          refine z_iload dX8_goThrough_51 rfl ?_
          refine z_aload_n dX8_goThrough_53 rfl ?_
          refine n_callV0 l_Work_42 (C_Work_join (p := l.length) hT hRT h3.2.1 hp h3.2.2.2.1 h3.2.2.1 h5 ⟨by omega, by omega⟩ hR2.1 hn) hT.1 dX8_goThrough_54 rfl rfl (Nat.le_of_ble_eq_true rfl) ⟨⟨by decide, by decide⟩, by decide, by decide⟩ (fun S54 q54 => ?_)
          refine z_goto 67 dX8_goThrough_57 (by decide) ?_
          first
            | (refine next _ _ ⟨h3.1.trans q31.1, q31.2.1, ?_, h3.2.2.2.keep q31.2.2.2⟩
               rw [sem_not hk (by omega) h4, e2]
               exact q31.2.2.1)
            | (refine next _ _ ⟨h3.1.trans q54.1, q54.2.1, ?_, h3.2.2.2.2.keep q54.2.2.2⟩
               rw [sem_join hk (by omega) (by omega), e2, e2b]
               exact q54.2.2.1)
            | (refine next _ _ ⟨h3.1.trans q64.1, q64.2.1, ?_, h3.2.2.keep q64.2.2.2⟩
               rw [sem_leaf h3s]
               exact q64.2.2.1)
        · have hn5 : nS nd i ≠ 5 := fun e => c40 (by rw [e]; rfl)
          refine z_iload dX8_goThrough_43 rfl ?_
          refine z_bipush 6 dX8_goThrough_45 (by decide) ?_
          refine z_icmp_ne 60 dX8_goThrough_47 (by decide) (fun c47 => ?_) (fun c47 => ?_)
          · have hn6 : nS nd i ≠ 6 := fun e => c47 (by rw [e]; rfl)
            have h3s : nS nd i ≤ 3 := by omega
            have e3 : stk (i + 1) = i :: stk i := by
              rcases ok1 with ⟨-, q⟩ | ⟨q, -⟩ | ⟨q, -⟩
              · exact q
              · omega
              · omega
            rw [e3] at hl next
            have hp : (stk i).length < 15 := by simp at hl; omega
            refine z_aload_n dX8_goThrough_60 rfl ?_
            refine z_aload_n dX8_goThrough_61 rfl ?_
            refine z_iload_n dX8_goThrough_62 rfl ?_
            refine z_aload_n dX8_goThrough_63 rfl ?_
            refine n_callV0 l_Work_46 (C_Work_ask (h := (stk i).length) hT hQT hRT hd h3.2.1 hp hR2 hn hv hQ2 (by omega) wN h3s ok2) hT.1 dX8_goThrough_64 rfl rfl (Nat.le_of_ble_eq_true rfl) ⟨⟨by decide, by decide⟩, by decide, by decide⟩ (fun S64 q64 => ?_)
            first
              | (refine next _ _ ⟨h3.1.trans q31.1, q31.2.1, ?_, h3.2.2.2.keep q31.2.2.2⟩
                 rw [sem_not hk (by omega) h4, e2]
                 exact q31.2.2.1)
              | (refine next _ _ ⟨h3.1.trans q54.1, q54.2.1, ?_, h3.2.2.2.2.keep q54.2.2.2⟩
                 rw [sem_join hk (by omega) (by omega), e2, e2b]
                 exact q54.2.2.1)
              | (refine next _ _ ⟨h3.1.trans q64.1, q64.2.1, ?_, h3.2.2.keep q64.2.2.2⟩
                 rw [sem_leaf h3s]
                 exact q64.2.2.1)
          · have h5 : nS nd i = 5 ∨ nS nd i = 6 := Or.inr ((nI_eq (b := 6) (by omega) (by decide)).mp c47)
            obtain ⟨a, b, l, e1, e2, e2b, e3⟩ : ∃ a b l, stk i = b :: a :: l ∧ nO nd i = a ∧ nT nd i = b ∧ stk (i + 1) = i :: l := by
              rcases ok1 with ⟨q, -⟩ | ⟨q, -⟩ | ⟨-, q⟩
              · omega
              · omega
              · exact q
            have ha1 : a < i := hlt a (by rw [e1]; exact List.mem_cons_of_mem _ List.mem_cons_self)
            have hb1 : b < i := hlt b (by rw [e1]; exact List.mem_cons_self)
            rw [e1] at h3 hl0
            rw [e3] at hl next
            have hp : l.length + 1 < 15 := by simp at hl0; omega
            have da := hsd a (by omega)
            have db := hsd b (by omega)
            refine z_aload_n dX8_goThrough_50 rfl ?_
            refine z_iload dX8_goThrough_51 rfl ?_
            refine z_aload_n dX8_goThrough_53 rfl ?_
            refine n_callV0 l_Work_42 (C_Work_join (p := l.length) hT hRT h3.2.1 hp h3.2.2.2.1 h3.2.2.1 h5 ⟨by omega, by omega⟩ hR2.1 hn) hT.1 dX8_goThrough_54 rfl rfl (Nat.le_of_ble_eq_true rfl) ⟨⟨by decide, by decide⟩, by decide, by decide⟩ (fun S54 q54 => ?_)
            refine z_goto 67 dX8_goThrough_57 (by decide) ?_
            first
              | (refine next _ _ ⟨h3.1.trans q31.1, q31.2.1, ?_, h3.2.2.2.keep q31.2.2.2⟩
                 rw [sem_not hk (by omega) h4, e2]
                 exact q31.2.2.1)
              | (refine next _ _ ⟨h3.1.trans q54.1, q54.2.1, ?_, h3.2.2.2.2.keep q54.2.2.2⟩
                 rw [sem_join hk (by omega) (by omega), e2, e2b]
                 exact q54.2.2.1)
              | (refine next _ _ ⟨h3.1.trans q64.1, q64.2.1, ?_, h3.2.2.keep q64.2.2.2⟩
                 rw [sem_leaf h3s]
                 exact q64.2.2.1)
      · have h4 : nS nd i = 4 := (nI_eq (b := 4) (by omega) (by decide)).mp c26
        obtain ⟨a, l, e1, e2, e3⟩ : ∃ a l, stk i = a :: l ∧ nO nd i = a ∧ stk (i + 1) = i :: l := by
          rcases ok1 with ⟨q, -⟩ | ⟨-, q⟩ | ⟨q, -⟩
          · omega
          · exact q
          · omega
        rw [e1] at h3 hl0
        rw [e3] at hl next
        have hp : l.length < 15 := by simp at hl; omega
        refine z_aload_n dX8_goThrough_29 rfl ?_
        refine z_aload_n dX8_goThrough_30 rfl ?_
        refine n_callV0 l_Work_38 (C_Work_turn (p := l.length) hT hRT h3.2.1 hp h3.2.2.1 hR2.1 hn) hT.1 dX8_goThrough_31 rfl rfl (Nat.le_of_ble_eq_true rfl) ⟨⟨by decide, by decide⟩, by decide, by decide⟩ (fun S31 q31 => ?_)
        refine z_goto 67 dX8_goThrough_34 (by decide) ?_
        first
          | (refine next _ _ ⟨h3.1.trans q31.1, q31.2.1, ?_, h3.2.2.2.keep q31.2.2.2⟩
             rw [sem_not hk (by omega) h4, e2]
             exact q31.2.2.1)
          | (refine next _ _ ⟨h3.1.trans q54.1, q54.2.1, ?_, h3.2.2.2.2.keep q54.2.2.2⟩
             rw [sem_join hk (by omega) (by omega), e2, e2b]
             exact q54.2.2.1)
          | (refine next _ _ ⟨h3.1.trans q64.1, q64.2.1, ?_, h3.2.2.keep q64.2.2.2⟩
             rw [sem_leaf h3s]
             exact q64.2.2.1)
theorem C_Work_go {stk : Nat → List Nat} (hT : tWork sh w) (hQT : tQuery sh q) (hRT : tRows sh r) (hd : (w + 19 ≤ r ∨ r + 82 ≤ w) ∧ (w + 19 ≤ q ∨ q + 5 ≤ w)) (hR : rRows S r n v) (hn : n ≤ 120) (hv : ∀ j, j < n → ∀ c, c < 4 → v j c < 16) (hQ : rQuery S q N nd) (hw : wfQ nd N stk) : zN G m_Work_goThrough 5 sh [.ref w, .ref q, .ref r] S none (fun S' => frS S (inWork w) S' ∧ wIt S' w n 0 (sem n v nd (N - 1))) := by
  refine s_meth 2 ⟨p_Work, rfl, Nat.le_of_ble_eq_true rfl⟩ rfl (fun sz => ?_)
  refine z_aload_n dX8_goThrough_0 rfl ?_
  refine z_iconst 0 dX8_goThrough_1 rfl ?_
  refine s_puti f_Work_24 dX8_goThrough_2 hT.1 rfl ⟨rfl, rfl⟩ ?_
  refine z_iconst 0 dX8_goThrough_5 rfl ?_
  refine z_istore_n (lv' := [_, _, _, _, _]) dX8_goThrough_6 (by decide) rfl ?_
  have f0 : frS S (inWork w) (zsi S w 3 0) := frS.seti ⟨by omega, by omega⟩
  refine L_go (S0 := zsi S w 3 0) (stk := stk) hT hQT hRT hd (hR.fr f0 (fun x h1 h2 => by unfold inWork; omega)) hn hv (hQ.fr f0 (fun b b1 b2 => by unfold inWork; omega)) hw (fun S' z hg => ?_) N 0 _ _ rfl (Nat.zero_le _) ⟨frS.rf, by rw [hw.2.2.1]; exact zi_si, by rw [hw.2.2.1]; trivial⟩
  rw [hw.2.2.2.1] at hg
  refine z_return dX8_goThrough_73 rfl ⟨Nat.le_refl _, Nat.le_refl _⟩ ⟨rfl, _, rfl, rfl, f0.trans hg.1, hg.2.2.1⟩
end WORK

