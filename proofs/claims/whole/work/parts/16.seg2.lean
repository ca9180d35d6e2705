/-! ===== what is read without a fault is a query: the parser ===== -/
def okX (L b : Nat) (X : PS → PS) : Prop := ∀ s, s.p ≤ L → (X s).f = -1 → SG b s.n s.nd (X s).n (X s).nd ∧ s.p + 2 * (X s).n ≤ (X s).p + 2 * s.n
section SEG2
variable {tx : Nat → Int32} {L b d : Nat} {E X : PS → PS}
theorem pQ_ok (hL : L ≤ 100) : okX L 1 (pQ tx L) := by
  intro s hs hf
  have hs : s.c.1 ≤ L := hs
  have g1 := (zq1_k (tx := tx) s.c).1 hs
  have g1b := ((zq1_k (tx := tx) s.c).trans (cPass_k (tx := tx) (c := 32) (by decide) _)).1 hs
  have g2 := (zq2_k (tx := tx) s.c).1 hs
  have g2b := ((zq2_k (tx := tx) s.c).trans (cPass_k (tx := tx) (c := 32) (by decide) _)).1 hs
  have g3 := (zq3_k (tx := tx) s.c).1 hs
  have m34 := ((cPass_k (tx := tx) (c := 46) (by decide) (zq3 tx L s.c).2).trans (cPass_k (tx := tx) (c := 46) (by decide) _)).1 g3.2
  have m4 := (cVal_k (tx := tx) (cPass tx L 46 (cPass tx L 46 (zq3 tx L s.c).2))).1 m34.2
  have main : (zq3 tx L s.c).2.2 = -1 → (∃ c, c < 4 ∧ (zq1 tx L s.c).1 = nI c) ∧ (∃ v, v < 16 ∧ (zq3 tx L s.c).1 = nI v) ∧ s.p + 2 ≤ (zq3 tx L s.c).2.1 := by
    intro e
    have e2 := zq3_ok2 e
    have e1 := zq2_ok1 e2
    have c1 := (cCol_ok (tx := tx) (L := L) (s := s.c) (by omega) e1).2.2
    have c3 := (cVal_ok (tx := tx) (L := L) (s := cPass tx L 32 (zq2 tx L s.c).2) (by omega) e).2.2
    have p1 := (cPass_k (tx := tx) (c := 32) (by decide) (zq1 tx L s.c).2).1 g1.2
    have p2 := (cSort_k (tx := tx) (cPass tx L 32 (zq1 tx L s.c).2)).1 p1.2
    have p3 := (cPass_k (tx := tx) (c := 32) (by decide) (zq2 tx L s.c).2).1 g2.2
    have q1 : s.c.1 < (zq1 tx L s.c).2.1 := c1
    have q3 : (cPass tx L 32 (zq2 tx L s.c).2).1 < (zq3 tx L s.c).2.1 := c3
    have q2 : (cPass tx L 32 (zq1 tx L s.c).2).1 ≤ (zq2 tx L s.c).2.1 := p2.1
    refine ⟨zq1_ok hs hL e1, zq3_ok hs hL e, ?_⟩
    show s.c.1 + 2 ≤ _
    omega
  unfold pQ at hf ⊢
  by_cases h1 : (zq2 tx L s.c).1 = 1
  · rw [if_pos h1] at hf ⊢
    obtain ⟨⟨c, c1, c2⟩, ⟨v, v1, v2⟩, hp⟩ := main hf
    refine ⟨SG.leaf (by decide : 1 ≤ 3) ?_, ?_⟩
    · show iN (zq1 tx L s.c).1 < 4 ∧ iN (zq3 tx L s.c).1 < 16 ∧ iN (zq3 tx L s.c).1 < 16
      rw [c2, v2, iN_nI (by omega), iN_nI (by omega)]
      exact ⟨c1, v1, v1⟩
    · show s.p + 2 * (s.n + 1) ≤ (zq3 tx L s.c).2.1 + 2 * s.n
      omega
  · rw [if_neg h1] at hf ⊢
    by_cases h2 : (zq2 tx L s.c).1 = 2
    · rw [if_pos h2] at hf ⊢
      obtain ⟨⟨c, c1, c2⟩, ⟨v, v1, v2⟩, hp⟩ := main hf
      refine ⟨SG.leaf (by decide : 2 ≤ 3) ?_, ?_⟩
      · show iN (zq1 tx L s.c).1 < 4 ∧ iN (zq3 tx L s.c).1 < 16 ∧ iN (zq3 tx L s.c).1 < 16
        rw [c2, v2, iN_nI (by omega), iN_nI (by omega)]
        exact ⟨c1, v1, v1⟩
      · show s.p + 2 * (s.n + 1) ≤ (zq3 tx L s.c).2.1 + 2 * s.n
        omega
    · rw [if_neg h2] at hf ⊢
      by_cases h3 : (zq2 tx L s.c).1 = 3
      · rw [if_pos h3] at hf ⊢
        have hf : (zq4 tx L s.c).2.2 = -1 := hf
        obtain ⟨⟨c, c1, c2⟩, ⟨v, v1, v2⟩, hp⟩ := main (zq4_ok3 hf)
        obtain ⟨w, w1, w2⟩ := zq4_ok (tx := tx) hs hL hf
        refine ⟨SG.leaf (by decide : 3 ≤ 3) ?_, ?_⟩
        · show iN (zq1 tx L s.c).1 < 4 ∧ iN (zq3 tx L s.c).1 < 16 ∧ iN (zq4 tx L s.c).1 < 16
          rw [c2, v2, w2, iN_nI (by omega), iN_nI (by omega), iN_nI (by omega)]
          exact ⟨c1, v1, w1⟩
        · show s.p + 2 * (s.n + 1) ≤ (zq4 tx L s.c).2.1 + 2 * s.n
          have q4 : (cPass tx L 46 (cPass tx L 46 (zq3 tx L s.c).2)).1 ≤ (zq4 tx L s.c).2.1 := m4.1
          have q5 := m34.1
          omega
      · rw [if_neg h3] at hf
        have e2 : (zq2 tx L s.c).2.2 = -1 := hf
        have p1 := (cPass_k (tx := tx) (c := 32) (by decide) (zq1 tx L s.c).2).1 g1.2
        rcases (cSort_ok (tx := tx) (L := L) (s := cPass tx L 32 (zq1 tx L s.c).2) (by omega) e2).2.2 with q | q | q
        · exact absurd q h1
        · exact absurd q h2
        · exact absurd q h3
theorem pLoop_ok {i k n0 p0 : Nat} {nd0 : Nd} (hi : i < 7) (hk : k = 5 ∨ k = 6) (hkX : ∀ s, keepC L s.c (X s).c) (hX : okX L b X) : ∀ d s, s.p ≤ L → SG (b + 1) n0 nd0 s.n s.nd → p0 + 2 * s.n ≤ s.p + 2 * n0 → (pLoop tx L i k X d s).f = -1 → SG (b + 1) n0 nd0 (pLoop tx L i k X d s).n (pLoop tx L i k X d s).nd ∧ p0 + 2 * (pLoop tx L i k X d s).n ≤ (pLoop tx L i k X d s).p + 2 * n0
  | 0, s, _, h2, h3, _ => ⟨h2, h3⟩
  | d + 1, s, h1, h2, h3, h4 => by
    by_cases hj : isJ tx L i s.c = true
    · rw [show pLoop tx L i k X (d + 1) s = pLoop tx L i k X d (pJn tx L i k X s) from if_pos hj] at h4 ⊢
      obtain ⟨j1, j2, j3, j4, j5⟩ := isJ_in hi hj
      have w2 := (wln_pos i hi).1
      have kp : s.p + 1 + wln i ≤ (cPJ tx L i s.c).1 ∧ (cPJ tx L i s.c).1 ≤ L := by
        rw [j4]
        exact (cPass_k (tx := tx) (L := L) (c := 32) (by decide) (s.p + 1 + wln i, s.c.2)).1 j5
      have k1 := pJn_k (k := k) hi hkX hj
      have f1 : (pJn tx L i k X s).f = -1 := (pLoop_k (k := k) hi hkX d (pJn tx L i k X s)).back h4
      have f1 : (X (psC (cPJ tx L i s.c) s)).f = -1 := f1
      obtain ⟨x1, x2⟩ := hX (psC (cPJ tx L i s.c) s) kp.2 f1
      have x2 : (cPJ tx L i s.c).1 + 2 * (X (psC (cPJ tx L i s.c) s)).n ≤ (X (psC (cPJ tx L i s.c) s)).p + 2 * s.n := x2
      refine pLoop_ok hi hk hkX hX d (pJn tx L i k X s) (k1.1 h1).2 (SG.join h2 x1 hk) ?_ h4
      show p0 + 2 * ((X (psC (cPJ tx L i s.c) s)).n + 1) ≤ (X (psC (cPJ tx L i s.c) s)).p + 2 * n0
      omega
    · rw [show pLoop tx L i k X (d + 1) s = s from if_neg hj] at h4 ⊢
      exact ⟨h2, h3⟩
theorem pB_ok (hkX : ∀ s, keepC L s.c (X s).c) (hX : okX L b X) : okX L (b + 1) (pB tx L X) := by
  intro s hs hf
  have f1 : (X s).f = -1 := (pLoop_k (tx := tx) (L := L) (i := 1) (k := 5) (by decide) hkX 100 (X s)).back hf
  obtain ⟨x1, x2⟩ := hX s hs f1
  exact pLoop_ok (tx := tx) (by decide) (Or.inl rfl) hkX hX 100 (X s) ((hkX s).1 hs).2 (x1.mono (by omega)) x2 hf
theorem pE_ok (hkX : ∀ s, keepC L s.c (X s).c) (hX : okX L b X) : okX L (b + 2) (pE tx L X) := by
  intro s hs hf
  have kB := pB_k (tx := tx) hkX
  have hB := pB_ok (tx := tx) hkX hX
  have f1 : (pB tx L X s).f = -1 := (pLoop_k (tx := tx) (L := L) (i := 0) (k := 6) (by decide) kB 100 (pB tx L X s)).back hf
  obtain ⟨x1, x2⟩ := hB s hs f1
  exact pLoop_ok (tx := tx) (by decide) (Or.inr rfl) kB hB 100 (pB tx L X s) ((kB s).1 hs).2 (x1.mono (by omega)) x2 hf
theorem pFac_ok (hL : L ≤ 100) (hb : 1 ≤ b) (hkE : ∀ s, keepC L s.c (E s).c) (hkX : ∀ s, keepC L s.c (X s).c) (hE : d ≠ 0 → okX L b E) (hX : d ≠ 0 → okX L b X) : okX L b (pFac tx L d E X) := by
  intro s hs hf
  by_cases h0 : s.f = -1
  · by_cases h1 : (isW tx L s.p 2 = true ∨ sgn tx L s.p = 40) ∧ d = 0
    · rw [pFac_1 h0 h1] at hf
      exact absurd hf (bl_n (by omega))
    · by_cases h2 : isW tx L s.p 2 = true
      · have hd : d ≠ 0 := fun e => h1 ⟨Or.inl h2, e⟩
        rw [pFac_2 h0 h1 h2] at hf ⊢
        have hw : s.p + 3 ≤ L := isW_in (by decide) h2
        have kp := (cPass_k (tx := tx) (L := L) (c := 32) (by decide) (s.p + 3, s.f)).1 hw
        have hf : (X (psC (cPass tx L 32 (s.p + 3, s.f)) s)).f = -1 := hf
        obtain ⟨x1, x2⟩ := hX hd (psC (cPass tx L 32 (s.p + 3, s.f)) s) kp.2 hf
        have x2 : (cPass tx L 32 (s.p + 3, s.f)).1 + 2 * (X (psC (cPass tx L 32 (s.p + 3, s.f)) s)).n ≤ (X (psC (cPass tx L 32 (s.p + 3, s.f)) s)).p + 2 * s.n := x2
        refine ⟨SG.not x1 hb, ?_⟩
        have k1 : s.p + 3 ≤ (cPass tx L 32 (s.p + 3, s.f)).1 := kp.1
        show s.p + 2 * ((X (psC (cPass tx L 32 (s.p + 3, s.f)) s)).n + 1) ≤ (X (psC (cPass tx L 32 (s.p + 3, s.f)) s)).p + 2 * s.n
        omega
      · by_cases h3 : sgn tx L s.p = 40
        · have hd : d ≠ 0 := fun e => h1 ⟨Or.inr h3, e⟩
          rw [pFac_3 h0 h1 h2 h3] at hf ⊢
          have kp := (cPass_k (tx := tx) (L := L) (c := 40) (by decide) s.c).1 hs
          have kE := (hkE (psC (cPass tx L 40 s.c) s)).1 kp.2
          have kc := cClose_k (tx := tx) (L := L) (E (psC (cPass tx L 40 s.c) s)).c
          have fE : (E (psC (cPass tx L 40 s.c) s)).f = -1 := kc.back hf
          obtain ⟨x1, x2⟩ := hE hd (psC (cPass tx L 40 s.c) s) kp.2 fE
          refine ⟨x1, ?_⟩
          have k1 : s.p ≤ (cPass tx L 40 s.c).1 := kp.1
          have k2 : (E (psC (cPass tx L 40 s.c) s)).p ≤ (cClose tx L (E (psC (cPass tx L 40 s.c) s)).c).1 := (kc.1 kE.2).1
          have x2 : (cPass tx L 40 s.c).1 + 2 * (E (psC (cPass tx L 40 s.c) s)).n ≤ (E (psC (cPass tx L 40 s.c) s)).p + 2 * s.n := x2
          show s.p + 2 * (E (psC (cPass tx L 40 s.c) s)).n ≤ (cClose tx L (E (psC (cPass tx L 40 s.c) s)).c).1 + 2 * s.n
          omega
        · by_cases h4 : isW tx L s.p 3 = true
          · rw [pFac_4 h0 h2 h3 h4] at hf ⊢
            have hw : s.p + 3 ≤ L := isW_in (by decide) h4
            refine ⟨(SG.leaf (by decide : 0 ≤ 3) ⟨(by decide : 0 < 4), (by decide : 0 < 16), (by decide : 0 < 16)⟩).mono hb, ?_⟩
            show s.p + 2 * (s.n + 1) ≤ s.p + 3 + 2 * s.n
            omega
          · rw [pFac_5 h0 h2 h3 h4] at hf ⊢
            obtain ⟨x1, x2⟩ := pQ_ok hL s hs hf
            exact ⟨x1.mono hb, x2⟩
  · rw [pFac_0 h0] at hf
    exact absurd hf h0
theorem pF_ok (hL : L ≤ 100) : ∀ d, okX L (2 * d + 1) (pF tx L d)
  | 0 => pFac_ok hL (by decide) id_k id_k (fun e => absurd rfl e) (fun e => absurd rfl e)
  | d + 1 => by
    have ih := pF_ok hL d
    have iE : okX L (2 * (d + 1) + 1) (pE tx L (pF tx L d)) := pE_ok (pF_k d) ih
    exact pFac_ok hL (by omega) (pE_k (pF_k d)) (pF_k d) (fun _ => iE) (fun _ s hs hf => ⟨(ih s hs hf).1.mono (by omega), (ih s hs hf).2⟩)
/-- the start of a text -/
abbrev ps0 : PS := (0, -1, 0, fun _ => (0, 0, 0, 0, 0, 0))
theorem pAll_eq : pAll tx L = if (pE tx L (pF tx L 6) ps0).p < L then psC (cBlf tx L (pE tx L (pF tx L 6) ps0).c) (pE tx L (pF tx L 6) ps0) else pE tx L (pF tx L 6) ps0 := by
  obtain ⟨t, ht⟩ : ∃ t, t = pE tx L (pF tx L 6) (0, -1, 0, fun _ => (0, 0, 0, 0, 0, 0)) := ⟨_, rfl⟩
  have h : pAll tx L = if t.p < L then psC (cBlf tx L t.c) t else t := by rw [ht]; rfl
  rw [h, ht]
theorem pAll_wf (hL : L ≤ 100) (h : (pAll tx L).f = -1) : pAll tx L = pE tx L (pF tx L 6) ps0 ∧ wfQ (pAll tx L).nd (pAll tx L).n (stkF (pAll tx L).nd) := by
  have kE := (pE_k (tx := tx) (pF_k (tx := tx) (L := L) 6) ps0).1 (Nat.zero_le _)
  have e : pAll tx L = pE tx L (pF tx L 6) ps0 := by
    rw [pAll_eq]
    by_cases q : (pE tx L (pF tx L 6) ps0).p < L
    · exfalso
      rw [pAll_eq, if_pos q] at h
      have h : bl (pE tx L (pF tx L 6) ps0).f (if sgn tx L (pE tx L (pF tx L 6) ps0).p = 32 then nI ((pE tx L (pF tx L 6) ps0).p + 1) else nI (pE tx L (pF tx L 6) ps0).p) = -1 := h
      split at h
      · exact absurd h (bl_n (by omega))
      · exact absurd h (bl_n (by omega))
    · exact if_neg q
  refine ⟨e, ?_⟩
  rw [e] at h ⊢
  obtain ⟨⟨h1, h2, h3, h4, h5⟩, x2⟩ := pE_ok (tx := tx) (pF_k 6) (pF_ok hL 6) ps0 (Nat.zero_le _) h
  have x2 : 0 + 2 * (pE tx L (pF tx L 6) ps0).n ≤ (pE tx L (pF tx L 6) ps0).p + 2 * 0 := x2
  have kE2 := kE.2
  have kE2 : (pE tx L (pF tx L 6) ps0).p ≤ L := kE2
  refine ⟨h2, by omega, rfl, h3, fun i hi => ?_, fun i hi => h4 i (Nat.zero_le _) hi⟩
  by_cases q : i = 0
  · subst q
    exact Nat.zero_le _
  · have := h5 i (by show 0 < i; omega) hi
    exact this
end SEG2

