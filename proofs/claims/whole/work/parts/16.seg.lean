/-! ===== what is read without a fault is a query ===== -/
def stkF (nd : Nd) : Nat → List Nat
  | 0 => []
  | i + 1 => if nS nd i ≤ 3 then i :: stkF nd i else if nS nd i = 4 then i :: (stkF nd i).drop 1 else i :: (stkF nd i).drop 2
theorem stkF_s {nd : Nd} {i : Nat} : stkF nd (i + 1) = if nS nd i ≤ 3 then i :: stkF nd i else if nS nd i = 4 then i :: (stkF nd i).drop 1 else i :: (stkF nd i).drop 2 := rfl
theorem stkF_cong {nd nd' : Nd} : ∀ {i : Nat}, (∀ j, j < i → nd j = nd' j) → stkF nd i = stkF nd' i
  | 0, _ => rfl
  | i + 1, h => by
    have ih := stkF_cong (i := i) (fun j hj => h j (by omega))
    have e := h i (by omega)
    unfold stkF
    rw [ih, show nS nd i = nS nd' i from congrArg (fun y => y.1) e]
theorem stepOK_cong {nd nd' : Nd} {i : Nat} (h : ∀ j, j ≤ i → nd j = nd' j) (g : stepOK nd (stkF nd) i) : stepOK nd' (stkF nd') i := by
  have e := h i (Nat.le_refl _)
  have s0 := stkF_cong (i := i) (fun j hj => h j (by omega))
  have s1 := stkF_cong (i := i + 1) (fun j hj => h j (by omega))
  unfold stepOK at g ⊢
  rw [s0, s1, show nS nd i = nS nd' i from congrArg (fun y => y.1) e, show nO nd i = nO nd' i from congrArg (fun y => y.2.2.2.2.1) e, show nT nd i = nT nd' i from congrArg (fun y => y.2.2.2.2.2) e] at g
  exact g
theorem ndOK_cong {nd nd' : Nd} {i : Nat} (h : nd i = nd' i) (g : ndOK nd i) : ndOK nd' i := by
  unfold ndOK at g ⊢
  rw [show nC nd i = nC nd' i from congrArg (fun y => y.2.1) h, show nL nd i = nL nd' i from congrArg (fun y => y.2.2.1) h, show nH nd i = nH nd' i from congrArg (fun y => y.2.2.2.1) h] at g
  exact g
theorem ndPush_at {nd : Nd} {n : Nat} {x : Ndx} : ndPush nd n x n = x := if_pos rfl
theorem ndPush_lt {nd : Nd} {n i : Nat} {x : Ndx} (h : i < n) : ndPush nd n x i = nd i := if_neg (by omega)
/-- from n0 nodes to n: one query more on the stack, at most b deep on the way -/
def SG (b n0 : Nat) (nd0 : Nd) (n : Nat) (nd : Nd) : Prop := (∀ i, i < n0 → nd i = nd0 i) ∧ n0 < n ∧ stkF nd n = (n - 1) :: stkF nd0 n0 ∧ (∀ i, n0 ≤ i → i < n → stepOK nd (stkF nd) i ∧ ndOK nd i) ∧ ∀ i, n0 < i → i ≤ n → (stkF nd i).length ≤ (stkF nd0 n0).length + b
theorem SG.mono {b b' n0 n : Nat} {nd0 nd : Nd} (h : SG b n0 nd0 n nd) (hb : b ≤ b') : SG b' n0 nd0 n nd :=
  ⟨h.1, h.2.1, h.2.2.1, h.2.2.2.1, fun i h1 h2 => by have := h.2.2.2.2 i h1 h2; omega⟩
theorem SG.leaf {n0 : Nat} {nd0 : Nd} {x : Ndx} (h3 : x.1 ≤ 3) (hx : x.2.1 < 4 ∧ x.2.2.1 < 16 ∧ x.2.2.2.1 < 16) : SG 1 n0 nd0 (n0 + 1) (ndPush nd0 n0 x) := by
  have e0 : stkF (ndPush nd0 n0 x) n0 = stkF nd0 n0 := stkF_cong (fun j hj => ndPush_lt hj)
  have es : nS (ndPush nd0 n0 x) n0 = x.1 := congrArg (fun y => y.1) ndPush_at
  have e1 : stkF (ndPush nd0 n0 x) (n0 + 1) = n0 :: stkF nd0 n0 := by
    rw [stkF_s, es, if_pos h3, e0]
  refine ⟨fun i hi => ndPush_lt hi, Nat.lt_succ_self _, by rw [e1]; rfl, fun i h1 h2 => ?_, fun i h1 h2 => ?_⟩
  · have e : i = n0 := by omega
    subst e
    refine ⟨Or.inl ⟨by rw [es]; exact h3, by rw [e1, e0]⟩, ?_⟩
    unfold ndOK nC nL nH
    rw [ndPush_at]
    exact hx
  · have e : i = n0 + 1 := by omega
    subst e
    rw [e1]
    exact Nat.le_refl _
theorem SG.not {b n0 n : Nat} {nd0 nd : Nd} (h : SG b n0 nd0 n nd) (hb : 1 ≤ b) : SG b n0 nd0 (n + 1) (ndPush nd n (4, 0, 0, 0, n - 1, 0)) := by
  obtain ⟨h1, h2, h3, h4, h5⟩ := h
  generalize hx : ((4, 0, 0, 0, n - 1, 0) : Ndx) = x
  have en : ndPush nd n x n = x := ndPush_at
  have e0 : stkF (ndPush nd n x) n = stkF nd n := stkF_cong (fun j hj => ndPush_lt hj)
  have es : nS (ndPush nd n x) n = 4 := (congrArg (fun y => y.1) en).trans (by rw [← hx])
  have eo : nO (ndPush nd n x) n = n - 1 := (congrArg (fun y => y.2.2.2.2.1) en).trans (by rw [← hx])
  have e1 : stkF (ndPush nd n x) (n + 1) = n :: stkF nd0 n0 := by
    rw [stkF_s, es, if_neg (by decide), if_pos rfl, e0, h3]
    rfl
  refine ⟨fun i hi => (ndPush_lt (by omega)).trans (h1 i hi), by omega, by rw [e1]; rfl, fun i g1 g2 => ?_, fun i g1 g2 => ?_⟩
  · by_cases e : i = n
    · subst e
      refine ⟨Or.inr (Or.inl ⟨es, i - 1, stkF nd0 n0, by rw [e0, h3], eo, e1⟩), ?_⟩
      unfold ndOK nC nL nH
      rw [en, ← hx]
      exact ⟨(by decide : 0 < 4), (by decide : 0 < 16), (by decide : 0 < 16)⟩
    · have hi : i < n := by omega
      exact ⟨stepOK_cong (fun j hj => (ndPush_lt (by omega)).symm) (h4 i g1 hi).1, ndOK_cong (ndPush_lt hi).symm (h4 i g1 hi).2⟩
  · by_cases e : i = n + 1
    · subst e
      rw [e1]
      show (stkF nd0 n0).length + 1 ≤ _
      omega
    · rw [stkF_cong (i := i) (fun j hj => ndPush_lt (show j < n by omega))]
      exact h5 i g1 (by omega)
theorem SG.join {b n0 n m k : Nat} {nd0 nd nd2 : Nd} (h : SG (b + 1) n0 nd0 n nd) (g : SG b n nd m nd2) (hk : k = 5 ∨ k = 6) : SG (b + 1) n0 nd0 (m + 1) (ndPush nd2 m (k, 0, 0, 0, n - 1, m - 1)) := by
  obtain ⟨h1, h2, h3, h4, h5⟩ := h
  obtain ⟨g1, g2, g3, g4, g5⟩ := g
  generalize hx : ((k, 0, 0, 0, n - 1, m - 1) : Ndx) = x
  have en : ndPush nd2 m x m = x := ndPush_at
  have e0 : stkF (ndPush nd2 m x) m = stkF nd2 m := stkF_cong (fun j hj => ndPush_lt hj)
  have es : nS (ndPush nd2 m x) m = k := (congrArg (fun y => y.1) en).trans (by rw [← hx])
  have eo : nO (ndPush nd2 m x) m = n - 1 := (congrArg (fun y => y.2.2.2.2.1) en).trans (by rw [← hx])
  have et : nT (ndPush nd2 m x) m = m - 1 := (congrArg (fun y => y.2.2.2.2.2) en).trans (by rw [← hx])
  have e1 : stkF (ndPush nd2 m x) (m + 1) = m :: stkF nd0 n0 := by
    rw [stkF_s, es, if_neg (by omega), if_neg (by omega), e0, g3, h3]
    rfl
  have low : ∀ j, j < n → ndPush nd2 m x j = nd j := fun j hj => (ndPush_lt (by omega)).trans (g1 j hj)
  refine ⟨fun i hi => (low i (by omega)).trans (h1 i hi), by omega, by rw [e1]; rfl, fun i a1 a2 => ?_, fun i a1 a2 => ?_⟩
  · by_cases e : i = m
    · subst e
      refine ⟨Or.inr (Or.inr ⟨by rw [es]; exact hk, n - 1, i - 1, stkF nd0 n0, by rw [e0, g3, h3], eo, et, e1⟩), ?_⟩
      unfold ndOK nC nL nH
      rw [en, ← hx]
      exact ⟨(by decide : 0 < 4), (by decide : 0 < 16), (by decide : 0 < 16)⟩
    · by_cases hi : i < n
      · exact ⟨stepOK_cong (fun j hj => (low j (by omega)).symm) (h4 i a1 hi).1, ndOK_cong (low i hi).symm (h4 i a1 hi).2⟩
      · exact ⟨stepOK_cong (fun j hj => (ndPush_lt (by omega)).symm) (g4 i (by omega) (by omega)).1, ndOK_cong (ndPush_lt (by omega)).symm (g4 i (by omega) (by omega)).2⟩
  · by_cases e : i = m + 1
    · subst e
      rw [e1]
      show (stkF nd0 n0).length + 1 ≤ _
      omega
    · by_cases hi : i ≤ n
      · rw [stkF_cong (i := i) (fun j hj => low j (by omega))]
        exact h5 i a1 hi
      · rw [show stkF (ndPush nd2 m x) i = stkF nd2 i from stkF_cong (i := i) (fun j hj => ndPush_lt (show j < m by omega))]
        have := g5 i (by omega) (by omega)
        rw [h3] at this
        have e2 : ((n - 1) :: stkF nd0 n0).length = (stkF nd0 n0).length + 1 := rfl
        omega
section SEG
variable {tx : Nat → Int32} {L : Nat}
theorem cPJ_k {i : Nat} (hi : i < 7) {s : PC} (h : isJ tx L i s = true) : keepC L s (cPJ tx L i s) := by
  obtain ⟨j1, j2, j3, j4, j5⟩ := isJ_in hi h
  rw [j4]
  have k := cPass_k (tx := tx) (L := L) (c := 32) (by decide) (s.1 + 1 + wln i, s.2)
  exact ⟨fun _ => ⟨by have := (k.1 j5).1; have e : s.1 + 1 + wln i ≤ (cPass tx L 32 (s.1 + 1 + wln i, s.2)).1 := this; omega, (k.1 j5).2⟩, fun q => absurd j1 q⟩
theorem pQ_k (s : PS) : keepC L s.c (pQ tx L s).c := by
  unfold pQ
  split
  · exact zq3_k s.c
  · split
    · exact zq3_k s.c
    · split
      · exact zq4_k s.c
      · exact zq2_k s.c
theorem pJn_k {i k : Nat} (hi : i < 7) {X : PS → PS} (hX : ∀ s, keepC L s.c (X s).c) {s : PS} (h : isJ tx L i s.c = true) : keepC L s.c (pJn tx L i k X s).c :=
  (cPJ_k hi h).trans (hX (psC (cPJ tx L i s.c) s))
theorem pLoop_k {i k : Nat} (hi : i < 7) {X : PS → PS} (hX : ∀ s, keepC L s.c (X s).c) : ∀ d s, keepC L s.c (pLoop tx L i k X d s).c
  | 0, s => ⟨fun h => ⟨Nat.le_refl _, h⟩, fun _ => rfl⟩
  | d + 1, s => by
    unfold pLoop
    split
    · next h => exact (pJn_k hi hX h).trans (pLoop_k hi hX d _)
    · exact ⟨fun h => ⟨Nat.le_refl _, h⟩, fun _ => rfl⟩
theorem pB_k {X : PS → PS} (hX : ∀ s, keepC L s.c (X s).c) (s : PS) : keepC L s.c (pB tx L X s).c := (hX s).trans (pLoop_k (by decide) hX 100 _)
theorem pE_k {X : PS → PS} (hX : ∀ s, keepC L s.c (X s).c) (s : PS) : keepC L s.c (pE tx L X s).c := (pB_k hX s).trans (pLoop_k (by decide) (pB_k hX) 100 _)
theorem pFac_k {d : Nat} {E X : PS → PS} (hE : ∀ s, keepC L s.c (E s).c) (hX : ∀ s, keepC L s.c (X s).c) (s : PS) : keepC L s.c (pFac tx L d E X s).c := by
  by_cases hf : s.f = -1
  · by_cases h1 : (isW tx L s.p 2 = true ∨ sgn tx L s.p = 40) ∧ d = 0
    · rw [pFac_1 hf h1]
      exact ⟨fun h => ⟨Nat.le_refl _, h⟩, fun h => bl_f h⟩
    · by_cases h2 : isW tx L s.p 2 = true
      · rw [pFac_2 hf h1 h2]
        have hw : s.p + 3 ≤ L := isW_in (by decide) h2
        have k := (cPass_k (tx := tx) (L := L) (c := 32) (by decide) (s.p + 3, s.f)).trans (hX (psC (cPass tx L 32 (s.p + 3, s.f)) s))
        exact ⟨fun _ => ⟨by have := (k.1 hw).1; have e : s.p + 3 ≤ (X (psC (cPass tx L 32 (s.p + 3, s.f)) s)).p := this; show s.p ≤ (X (psC (cPass tx L 32 (s.p + 3, s.f)) s)).p; omega, (k.1 hw).2⟩, fun q => absurd hf q⟩
      · by_cases h3 : sgn tx L s.p = 40
        · rw [pFac_3 hf h1 h2 h3]
          exact ((cPass_k (tx := tx) (L := L) (c := 40) (by decide) s.c).trans (hE (psC (cPass tx L 40 s.c) s))).trans (cClose_k _)
        · by_cases h4 : isW tx L s.p 3 = true
          · rw [pFac_4 hf h2 h3 h4]
            have hw : s.p + 3 ≤ L := isW_in (by decide) h4
            exact ⟨fun _ => ⟨Nat.le_add_right _ _, hw⟩, fun _ => rfl⟩
          · rw [pFac_5 hf h2 h3 h4]
            exact pQ_k s
  · rw [pFac_0 hf]
    exact ⟨fun h => ⟨Nat.le_refl _, h⟩, fun _ => rfl⟩
theorem id_k (s : PS) : keepC L s.c (id s).c := ⟨fun h => ⟨Nat.le_refl _, h⟩, fun _ => rfl⟩
theorem pF_k : ∀ d s, keepC L s.c (pF tx L d s).c
  | 0, s => pFac_k id_k id_k s
  | d + 1, s => pFac_k (pE_k (pF_k d)) (pF_k d) s
end SEG

