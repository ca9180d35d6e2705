/-! ===== both sides of a call ===== -/
theorem nIe {a b : Nat} (ha : a < 2 ^ 31) (hb : b < 2 ^ 31) (h : nI a = nI b) : a = b := (nI_eq ha hb).mp h
abbrev oX (x : Nat) (w' : Wd) (S : zSt) : zSt → Prop := fun S' => frS S (inX x) S' ∧ rRC S' x w'
abbrev oM (m : Nat) (w' : Wd) (S : zSt) : zSt → Prop := fun S' => frS S (inM m) S' ∧ rMo S' m w'
/-- a call on both sides: one answer, one world -/
def Pair (G : zG) (sh : Nat → Option zSh) (x m : Nat) (w : Wd) (Mx Mm : zM) (dx dm : Nat) (as : List Value) : Prop := ∃ (r : Int32) (w' : Wd), wOK w' ∧ (∀ S, rRC S x w → zN G Mx dx sh (.ref x :: as) S (some (.int r)) (oX x w' S)) ∧ ∀ S, rMo S m w → zN G Mm dm sh (.ref m :: as) S (some (.int r)) (oM m w' S)
def PairJ (G : zG) (sh : Nat → Option zSh) (x m : Nat) (w : Wd) (Mx Mm : zM) (dx dm : Nat) (as : List Value) : Prop := ∃ (r : Int64) (w' : Wd), wOK w' ∧ (∀ S, rRC S x w → zN G Mx dx sh (.ref x :: as) S (some (.long r)) (oX x w' S)) ∧ ∀ S, rMo S m w → zN G Mm dm sh (.ref m :: as) S (some (.long r)) (oM m w' S)
theorem rRows.val4 {S : zSt} {r n : Nat} {v v' : Nat → Nat → Nat} (h : rRows S r n v) (hv : ∀ j, j < n → ∀ c, c < 4 → v j c = v' j c) : rRows S r n v' := ⟨h.1, fun e he j hj => by
  rw [h.2 e he j hj]
  by_cases hjn : j < n
  · unfold kq
    rw [hv j hjn _ (by omega)]
  · simp [hjn]⟩
theorem gAdd_eq {A : Ab} {ga : Nat → Int32} {y y' : Nat → Nat} (h : ∀ c, c < 4 → y c = y' c) : gAdd A ga y = gAdd A ga y' := by
  unfold gAdd
  rw [h 0 (by decide), h 1 (by decide), h 2 (by decide), h 3 (by decide)]
theorem rRC.add4 {S : zSt} {x : Nat} {w : Wd} {y y' : Nat → Nat} (h : rRC S x ((aAdd (wA w) y, gAdd (wA w) (wg w) y), w.2)) (hy : ∀ c, c < 4 → y c = y' c) : rRC S x ((aAdd (wA w) y', gAdd (wA w) (wg w) y'), w.2) := by
  rw [← gAdd_eq (A := wA w) (ga := wg w) hy]
  obtain ⟨⟨h1, h2⟩, h3⟩ := h
  refine ⟨⟨h1.val4 (fun j hj c hc => ?_), h2⟩, h3⟩
  show vPush (aV (wA w)) (aN (wA w)) y j c = vPush (aV (wA w)) (aN (wA w)) y' j c
  unfold vPush
  split
  · exact hy c hc
  · rfl
theorem rMo.any {S : zSt} {m : Nat} {w : Wd} {A A' : Ab} {ga ga' : Nat → Int32} (h : rMo S m ((A, ga), w.2)) (e : ga = ga') : rMo S m ((A', ga'), w.2) := by
  subst e; exact h
theorem rMo.scr {S S' : zSt} {m : Nat} {w : Wd} {P : Nat → Prop} (h : rMo S m w) (hf : frS S P S') (hP : ∀ b, P b → b = m + 2 ∨ b = m + 12 ∨ b = m + 22) : frS S (inM m) S' ∧ rMo S' m w :=
  ⟨hf.weaken (fun b hb => by have := hP b hb; unfold inM; omega), h.fr hf (fun b h1 h2 h3 h4 h5 q => by have := hP b q; omega)⟩
theorem gaOK.mono {A : Ab} {ga : Nat → Int32} {q q' : Nat} (h : gaOK A ga q) (hq : q ≤ q') : gaOK A ga q' := by
  obtain ⟨h1, h2, h3, h4, h5, h6, h7⟩ := h
  exact ⟨h1, h2, h3, h4, h5, h6, fun i hi => by obtain ⟨k, k1, k2⟩ := h7 i hi; exact ⟨k, by omega, k2⟩⟩
theorem okNow {w : Wd} {A : Ab} {ga : Nat → Int32} (h : wOK w) (hg : gaOK A ga (wq w)) : wOK ((A, ga), w.2) := ⟨hg, h.2⟩
theorem okTape {w : Wd} {t : Nat} {T : Int32 × Nat × (Nat → Int64)} (h : wOK w) (hT : tpOK T) : wOK (wTape w t T) := by
  refine ⟨h.1, h.2.1, h.2.2.1, h.2.2.2.1, fun u hu => ?_⟩
  show tpOK (if u = t then T else w.2.2.2.2 u)
  split
  · exact hT
  · exact h.2.2.2.2 u hu
theorem okQry {w : Wd} (h : wOK w) (h8 : wq w < 8) (hf : (pAll (wtx w) (wL w)).f = -1) : wOK (wQry w) := by
  refine ⟨h.1.mono (Nat.le_succ _), fun q => (h.2.1 q).mono (Nat.le_succ _), ⟨h8, fun k hk => ?_⟩, ⟨Nat.zero_le _, fun i hi => absurd hi (Nat.not_lt_zero _)⟩, h.2.2.2.2⟩
  have hk : k < wq w + 1 := hk
  show wfQ (if k = wq w then ((pAll (wtx w) (wL w)).n, (pAll (wtx w) (wL w)).nd) else w.2.2.1.2 k : Nat × Nd).2 (if k = wq w then ((pAll (wtx w) (wL w)).n, (pAll (wtx w) (wL w)).nd) else w.2.2.1.2 k : Nat × Nd).1 (stkF (if k = wq w then ((pAll (wtx w) (wL w)).n, (pAll (wtx w) (wL w)).nd) else w.2.2.1.2 k : Nat × Nd).2)
  by_cases e : k = wq w
  · rw [if_pos e]
    exact (pAll_wf h.2.2.2.1.1 hf).2
  · rw [if_neg e]
    exact h.2.2.1.2 k (by omega)
section PAIR
variable {G : zG} {sh : Nat → Option zSh} {x m : Nat} {w : Wd}
theorem P_add {a b c d : Int32} (hx : tRC sh x) (hm : tMo sh m) (hW : wOK w) : Pair G sh x m w m_RC_add m_Mo_add 4 2 [.int a, .int b, .int c, .int d] := by
  by_cases hv : rg a 16 = true ∧ rg b 16 = true ∧ rg c 16 = true ∧ rg d 16 = true
  · by_cases hn : 120 ≤ aN (wA w)
    · exact ⟨(-4), w, hW, fun S hR => C_RC_add hx hR hW (fun q => absurd hv q) (fun _ _ => ⟨rfl, frS.rf, hR⟩) (fun y S' _ _ _ _ _ q => absurd hn (by omega)), fun S hR => C_Mo_add hm hR hW (fun q => absurd hv q) (fun _ _ => ⟨rfl, frS.rf, hR⟩) (fun y S' _ _ _ _ _ q => absurd hn (by omega))⟩
    · obtain ⟨ja, ha, rfl⟩ := rg_t (by decide) hv.1
      obtain ⟨jb, hb, rfl⟩ := rg_t (by decide) hv.2.1
      obtain ⟨jc, hc, rfl⟩ := rg_t (by decide) hv.2.2.1
      obtain ⟨jd, hd, rfl⟩ := rg_t (by decide) hv.2.2.2
      have ag : ∀ y : Nat → Nat, (∀ i, i < 4 → y i < 16) → nI ja = nI (y 0) → nI jb = nI (y 1) → nI jc = nI (y 2) → nI jd = nI (y 3) → ∀ i, i < 4 → y i = y4 ja jb jc jd i := fun y h e0 e1 e2 e3 i hi => by
        have a0 := h 0 (by decide)
        have a1 := h 1 (by decide)
        have a2 := h 2 (by decide)
        have a3 := h 3 (by decide)
        rcases (by omega : i = 0 ∨ i = 1 ∨ i = 2 ∨ i = 3) with rfl | rfl | rfl | rfl
        · exact (nIe (by omega) (by omega) e0).symm
        · exact (nIe (by omega) (by omega) e1).symm
        · exact (nIe (by omega) (by omega) e2).symm
        · exact (nIe (by omega) (by omega) e3).symm
      exact ⟨(nI (aN (wA w))), ((aAdd (wA w) (y4 ja jb jc jd), gAdd (wA w) (wg w) (y4 ja jb jc jd)), w.2), okNow hW (okAdd hW.1 (by omega) (y4_lt ha hb hc hd)), fun S hR => C_RC_add hx hR hW (fun q => absurd hv q) (fun _ q => absurd q hn) (fun y S' hy e0 e1 e2 e3 _ hf hr => ⟨rfl, hf, hr.add4 (ag y hy e0 e1 e2 e3)⟩), fun S hR => C_Mo_add hm hR hW (fun q => absurd hv q) (fun _ q => absurd q hn) (fun y S' hy e0 e1 e2 e3 _ hf hr => ⟨rfl, hf, hr.any (gAdd_eq (ag y hy e0 e1 e2 e3))⟩)⟩
  · exact ⟨(-2), w, hW, fun S hR => C_RC_add hx hR hW (fun _ => ⟨rfl, frS.rf, hR⟩) (fun q => absurd q hv) (fun y S' hy e0 e1 e2 e3 _ _ _ => absurd ⟨by rw [e0]; exact rg_n (hy 0 (by decide)) (by decide), by rw [e1]; exact rg_n (hy 1 (by decide)) (by decide), by rw [e2]; exact rg_n (hy 2 (by decide)) (by decide), by rw [e3]; exact rg_n (hy 3 (by decide)) (by decide)⟩ hv), fun S hR => C_Mo_add hm hR hW (fun _ => ⟨rfl, frS.rf, hR⟩) (fun q => absurd q hv) (fun y S' hy e0 e1 e2 e3 _ _ _ => absurd ⟨by rw [e0]; exact rg_n (hy 0 (by decide)) (by decide), by rw [e1]; exact rg_n (hy 1 (by decide)) (by decide), by rw [e2]; exact rg_n (hy 2 (by decide)) (by decide), by rw [e3]; exact rg_n (hy 3 (by decide)) (by decide)⟩ hv)⟩
theorem P_at {a b : Int32} (hx : tRC sh x) (hm : tMo sh m) (hW : wOK w) : Pair G sh x m w m_RC_at m_Mo_at 3 3 [.int a, .int b] := by
  have b1 := hW.1.1.1
  by_cases hv : rg a (aN (wA w)) = true ∧ rg b 4 = true
  · obtain ⟨j, hj, rfl⟩ := rg_t (by omega) hv.1
    obtain ⟨c, hc, rfl⟩ := rg_t (by decide) hv.2
    refine ⟨(nI (aV (wA w) j c)), w, hW, fun S hR => C_RC_at hx hR hW (fun q => absurd hv q) (fun j' c' h1 h2 e1 e2 => ?_), fun S hR => C_Mo_at hm hR hW (fun q => absurd hv q) (fun j' c' h1 h2 e1 e2 => ?_)⟩
    · rw [← nIe (by omega) (by omega) e1, ← nIe (by omega) (by omega) e2]; exact ⟨rfl, frS.rf, hR⟩
    · rw [← nIe (by omega) (by omega) e1, ← nIe (by omega) (by omega) e2]; exact ⟨rfl, frS.rf, hR⟩
  · have no : ∀ j c, j < aN (wA w) → c < 4 → a = nI j → b = nI c → False := fun j c h1 h2 e1 e2 => hv ⟨by rw [e1]; exact rg_n h1 (by omega), by rw [e2]; exact rg_n h2 (by decide)⟩
    exact ⟨(-1), w, hW, fun S hR => C_RC_at hx hR hW (fun _ => ⟨rfl, frS.rf, hR⟩) (fun j c h1 h2 e1 e2 => (no j c h1 h2 e1 e2).elim), fun S hR => C_Mo_at hm hR hW (fun _ => ⟨rfl, frS.rf, hR⟩) (fun j c h1 h2 e1 e2 => (no j c h1 h2 e1 e2).elim)⟩
theorem P_mark (hx : tRC sh x) (hm : tMo sh m) (hW : wOK w) : Pair G sh x m w m_RC_mark m_Mo_mark 1 1 [] := by
  by_cases hn : 10 ≤ aM (wA w)
  · exact ⟨(-4), w, hW, fun S hR => C_RC_mark hx hR hW (fun _ => ⟨rfl, frS.rf, hR⟩) (fun S' q => absurd hn (by omega)), fun S hR => C_Mo_mark hm hR hW (fun _ => ⟨rfl, frS.rf, hR⟩) (fun S' q => absurd hn (by omega))⟩
  · exact ⟨(nI (aM (wA w))), ((aMark (wA w), gMark (wA w) (wg w)), w.2), okNow hW (okMark hW.1 (by omega)), fun S hR => C_RC_mark hx hR hW (fun q => absurd q hn) (fun S' _ hf hr => ⟨rfl, hf, hr⟩), fun S hR => C_Mo_mark hm hR hW (fun q => absurd q hn) (fun S' _ hf hr => ⟨rfl, hf, hr⟩)⟩
theorem P_back {a : Int32} (hx : tRC sh x) (hm : tMo sh m) (hW : wOK w) : Pair G sh x m w m_RC_back m_Mo_back 4 2 [.int a] := by
  have b2 := hW.1.1.2.1
  by_cases hv : rg a (aM (wA w)) = true
  · obtain ⟨k, hk, rfl⟩ := rg_t (by omega) hv
    refine ⟨(nI (aN (wA w) - aT (wA w) k)), ((aBack (wA w) k, gBack (wA w) (wg w) k), w.2), okNow hW (okBack hW.1 hk), fun S hR => C_RC_back hx hR hW (fun q => absurd hv q) (fun k' S' h1 e hf hr => ?_), fun S hR => C_Mo_back hm hR hW (fun q => absurd hv q) (fun k' S' h1 e hf hr => ?_)⟩
    · have e := nIe (by omega) (by omega) e
      subst e
      exact ⟨rfl, hf, hr⟩
    · have e := nIe (by omega) (by omega) e
      subst e
      exact ⟨rfl, hf, hr⟩
  · have no : ∀ k, k < aM (wA w) → a = nI k → False := fun k h1 e => hv (by rw [e]; exact rg_n h1 (by omega))
    exact ⟨(-1), w, hW, fun S hR => C_RC_back hx hR hW (fun _ => ⟨rfl, frS.rf, hR⟩) (fun k S' h1 e => (no k h1 e).elim), fun S hR => C_Mo_back hm hR hW (fun _ => ⟨rfl, frS.rf, hR⟩) (fun k S' h1 e => (no k h1 e).elim)⟩
theorem P_runs {a b : Int32} (hx : tRC sh x) (hm : tMo sh m) (hW : wOK w) : Pair G sh x m w m_RC_runs m_Mo_runs 3 3 [.int a, .int b] := by
  by_cases hv : rg a 4 = true ∧ rg b 20 = true
  · obtain ⟨j, hj, rfl⟩ := rg_t (by decide) hv.1
    obtain ⟨c, hc, rfl⟩ := rg_t (by decide) hv.2
    refine ⟨(nI (runsN (kbits (aV (wA w)) j c) (aN (wA w)))), w, hW, fun S hR => C_RC_runs hx hR hW (fun q => absurd hv q) (fun j' c' h1 h2 e1 e2 => ?_), fun S hR => C_Mo_runs hm hR hW (fun q => absurd hv q) (fun j' c' h1 h2 e1 e2 => ?_)⟩
    · rw [← nIe (by omega) (by omega) e1, ← nIe (by omega) (by omega) e2]; exact ⟨rfl, frS.rf, hR⟩
    · rw [← nIe (by omega) (by omega) e1, ← nIe (by omega) (by omega) e2]; exact ⟨rfl, frS.rf, hR⟩
  · have no : ∀ j c, j < 4 → c < 20 → a = nI j → b = nI c → False := fun j c h1 h2 e1 e2 => hv ⟨by rw [e1]; exact rg_n h1 (by omega), by rw [e2]; exact rg_n h2 (by decide)⟩
    exact ⟨(-1), w, hW, fun S hR => C_RC_runs hx hR hW (fun _ => ⟨rfl, frS.rf, hR⟩) (fun j c h1 h2 e1 e2 => (no j c h1 h2 e1 e2).elim), fun S hR => C_Mo_runs hm hR hW (fun _ => ⟨rfl, frS.rf, hR⟩) (fun j c h1 h2 e1 e2 => (no j c h1 h2 e1 e2).elim)⟩
theorem P_run {a b d : Int32} (hx : tRC sh x) (hm : tMo sh m) (hW : wOK w) : Pair G sh x m w m_RC_run m_Mo_run 4 3 [.int a, .int b, .int d] := by
  by_cases hv : rg a 4 = true ∧ rg b 20 = true ∧ 0 ≤ d
  · obtain ⟨j, hj, rfl⟩ := rg_t (by decide) hv.1
    obtain ⟨c, hc, rfl⟩ := rg_t (by decide) hv.2.1
    obtain ⟨i, hi, rfl⟩ := nI_of (Int32.not_lt.mpr hv.2.2)
    refine ⟨(runA (kbits (aV (wA w)) j c) (aN (wA w)) i), w, hW, fun S hR => C_RC_run hx hR hW (fun q => absurd hv q) (fun j' c' i' h1 h2 h3 e1 e2 e3 => ?_), fun S hR => C_Mo_run hm hR hW (fun q => absurd hv q) (fun j' c' i' h1 h2 h3 e1 e2 e3 => ?_)⟩
    · rw [← nIe (by omega) (by omega) e1, ← nIe (by omega) (by omega) e2, ← nIe hi h3 e3]; exact ⟨rfl, frS.rf, hR⟩
    · rw [← nIe (by omega) (by omega) e1, ← nIe (by omega) (by omega) e2, ← nIe hi h3 e3]; exact ⟨rfl, frS.rf, hR⟩
  · have no : ∀ j c i, j < 4 → c < 20 → i < 2 ^ 31 → a = nI j → b = nI c → d = nI i → False := fun j c i h1 h2 h3 e1 e2 e3 => hv ⟨by rw [e1]; exact rg_n h1 (by omega), by rw [e2]; exact rg_n h2 (by decide), by rw [e3]; exact nI_pos' h3⟩
    exact ⟨(-1), w, hW, fun S hR => C_RC_run hx hR hW (fun _ => ⟨rfl, frS.rf, hR⟩) (fun j c i h1 h2 h3 e1 e2 e3 => (no j c i h1 h2 h3 e1 e2 e3).elim), fun S hR => C_Mo_run hm hR hW (fun _ => ⟨rfl, frS.rf, hR⟩) (fun j c i h1 h2 h3 e1 e2 e3 => (no j c i h1 h2 h3 e1 e2 e3).elim)⟩
theorem P_feed {a : Int32} (hx : tRC sh x) (hm : tMo sh m) (hW : wOK w) : Pair G sh x m w m_RC_feed m_Mo_feed 2 2 [.int a] := by
  by_cases hv : rg a 128 = true
  · by_cases hn : 100 ≤ wL w
    · exact ⟨(-4), w, hW, fun S hR => C_RC_feed hx hR hW (fun q => absurd hv q) (fun _ _ => ⟨rfl, frS.rf, hR⟩) (fun c S' _ _ q => absurd hn (by omega)), fun S hR => C_Mo_feed hm hR hW (fun q => absurd hv q) (fun _ _ => ⟨rfl, frS.rf, hR⟩) (fun c S' _ _ q => absurd hn (by omega))⟩
    · obtain ⟨c, hc, rfl⟩ := rg_t (by decide) hv
      refine ⟨(nI (wL w + 1)), wText w (wL w + 1) (gset (wtx w) (wL w) (nI c)), ⟨hW.1, hW.2.1, hW.2.2.1, ⟨by show wL w + 1 ≤ 100; omega, fun i hi => ?_⟩, hW.2.2.2.2⟩, fun S hR => C_RC_feed hx hR hW (fun q => absurd hv q) (fun _ q => absurd q hn) (fun c' S' h1 e _ hf hr => ?_), fun S hR => C_Mo_feed hm hR hW (fun q => absurd hv q) (fun _ q => absurd q hn) (fun c' S' h1 e _ hf hr => ?_)⟩
      · have hi : i < wL w + 1 := hi
        show ∃ c', c' < 128 ∧ gset (wtx w) (wL w) (nI c) i = nI c'
        by_cases e : i = wL w
        · subst e; exact ⟨c, hc, gset_s⟩
        · rw [gset_n e]; exact hW.2.2.2.1.2 i (by omega)
      · have e := nIe (by omega) (by omega) e
        subst e
        exact ⟨rfl, hf, hr⟩
      · have e := nIe (by omega) (by omega) e
        subst e
        exact ⟨rfl, hf, hr⟩
  · exact ⟨(-2), w, hW, fun S hR => C_RC_feed hx hR hW (fun _ => ⟨rfl, frS.rf, hR⟩) (fun q => absurd q hv) (fun c S' h1 e => absurd (by rw [e]; exact rg_n h1 (by decide)) hv), fun S hR => C_Mo_feed hm hR hW (fun _ => ⟨rfl, frS.rf, hR⟩) (fun q => absurd q hv) (fun c S' h1 e => absurd (by rw [e]; exact rg_n h1 (by decide)) hv)⟩
theorem P_query (hx : tRC sh x) (hm : tMo sh m) (hW : wOK w) : Pair G sh x m w m_RC_query m_Mo_query 32 60 [] := by
  have h8 := hW.2.2.1.1
  by_cases hq : wq w = 8
  · exact ⟨(-4), w, hW, fun S hR => C_RC_query hx hR hW (fun _ => ⟨rfl, frS.rf, hR⟩) (fun S' q => absurd hq (by omega)) (fun S' q => absurd hq (by omega)), fun S hR => C_Mo_query hm hR hW (fun _ => ⟨rfl, frS.rf, hR⟩) (fun S' q => absurd hq (by omega)) (fun S' q => absurd hq (by omega))⟩
  · by_cases hf : (pAll (wtx w) (wL w)).f = -1
    · have no : 0 ≤ (pAll (wtx w) (wL w)).f → False := fun q => by rw [hf] at q; exact absurd q (by decide)
      exact ⟨(nI (wq w)), wQry w, okQry hW (by omega) hf, fun S hR => C_RC_query hx hR hW (fun q => absurd q hq) (fun S' _ q => (no q).elim) (fun S' _ _ g1 g2 => ⟨rfl, g1, g2⟩), fun S hR => C_Mo_query hm hR hW (fun q => absurd q hq) (fun S' _ q => (no q).elim) (fun S' _ _ g1 g2 => ⟨rfl, g1, g2⟩)⟩
    · exact ⟨(-10 - (pAll (wtx w) (wL w)).f), wText w 0 (wtx w), ⟨hW.1, hW.2.1, hW.2.2.1, ⟨Nat.zero_le _, fun i hi => absurd hi (Nat.not_lt_zero _)⟩, hW.2.2.2.2⟩, fun S hR => C_RC_query hx hR hW (fun q => absurd q hq) (fun S' _ _ g1 g2 => ⟨rfl, g1, g2⟩) (fun S' _ q => absurd q hf), fun S hR => C_Mo_query hm hR hW (fun q => absurd q hq) (fun S' _ _ g1 g2 => ⟨rfl, g1, g2⟩) (fun S' _ q => absurd q hf)⟩

theorem P_of {a b : Int32} (hx : tRC sh x) (hm : tMo sh m) (hW : wOK w) : Pair G sh x m w m_RC_of m_Mo_of 6 60 [.int a, .int b] := by
  have h8 := hW.2.2.1.1
  by_cases hv : rg a (wq w) = true ∧ rg b 8 = true
  · obtain ⟨k, hk, rfl⟩ := rg_t (by omega) hv.1
    obtain ⟨i, hi, rfl⟩ := rg_t (by decide) hv.2
    refine ⟨(ofA w k i), w, hW, fun S hR => C_RC_of hx hR hW (fun S' q _ => absurd hv q) (fun k' i' S' gk ek gi ei hf => ?_), fun S hR => C_Mo_of hm hR hW (fun q => absurd hv q) (fun k' i' gk ek gi ei => ?_)⟩
    · skip
      have ek := nIe (by omega) (by omega) ek
      subst ek
      have ei := nIe (by omega) (by omega) ei
      subst ei
      exact ⟨rfl, hR.scr hf⟩
    · skip
      have ek := nIe (by omega) (by omega) ek
      subst ek
      have ei := nIe (by omega) (by omega) ei
      subst ei
      exact ⟨rfl, frS.rf, hR⟩
  · exact ⟨(-1), w, hW, fun S hR => C_RC_of hx hR hW (fun S' _ hf => ⟨rfl, hR.scr hf⟩) (fun k' i' S' gk ek gi ei _ => absurd ⟨by rw [ek]; exact rg_n gk (by omega), by rw [ei]; exact rg_n gi (by decide)⟩ hv), fun S hR => C_Mo_of hm hR hW (fun _ => ⟨rfl, frS.rf, hR⟩) (fun k' i' gk ek gi ei => absurd ⟨by rw [ek]; exact rg_n gk (by omega), by rw [ei]; exact rg_n gi (by decide)⟩ hv)⟩
theorem P_row {a b : Int32} (hx : tRC sh x) (hm : tMo sh m) (hW : wOK w) : Pair G sh x m w m_RC_row m_Mo_row 7 60 [.int a, .int b] := by
  have h8 := hW.2.2.1.1
  by_cases hv : rg a (wq w) = true ∧ 0 ≤ b
  · obtain ⟨k, hk, rfl⟩ := rg_t (by omega) hv.1
    refine ⟨(kOne (qI w k).1 (aN (wA w)) b), w, hW, fun S hR => C_RC_row hx hR hW (fun q => absurd hv q) (fun k' S' gk ek _ hf => ?_), fun S hR => C_Mo_row hm hR hW (fun q => absurd hv q) (fun k' gk ek _ => ?_)⟩
    · skip
      have ek := nIe (by omega) (by omega) ek
      subst ek
      exact ⟨rfl, hR.scr hf⟩
    · skip
      have ek := nIe (by omega) (by omega) ek
      subst ek
      exact ⟨rfl, frS.rf, hR⟩
  · exact ⟨(-1), w, hW, fun S hR => C_RC_row hx hR hW (fun _ => ⟨rfl, frS.rf, hR⟩) (fun k' S' gk ek gb _ => absurd ⟨by rw [ek]; exact rg_n gk (by omega), gb⟩ hv), fun S hR => C_Mo_row hm hR hW (fun _ => ⟨rfl, frS.rf, hR⟩) (fun k' gk ek gb => absurd ⟨by rw [ek]; exact rg_n gk (by omega), gb⟩ hv)⟩
theorem P_group {a b d : Int32} (hx : tRC sh x) (hm : tMo sh m) (hW : wOK w) : Pair G sh x m w m_RC_group m_Mo_group 7 60 [.int a, .int b, .int d] := by
  have h8 := hW.2.2.1.1
  by_cases hv : rg a (wq w) = true ∧ rg b 4 = true ∧ rg d 16 = true
  · obtain ⟨k, hk, rfl⟩ := rg_t (by omega) hv.1
    obtain ⟨c, hc, rfl⟩ := rg_t (by decide) hv.2.1
    obtain ⟨v, hv, rfl⟩ := rg_t (by decide) hv.2.2
    refine ⟨(nI (gct (qI w k).1 (aV (wA w)) (aN (wA w)) c v)), w, hW, fun S hR => C_RC_group hx hR hW (fun q => absurd hv q) (fun k' c' v' S' gk ek gc ec gv ev hf => ?_), fun S hR => C_Mo_group hm hR hW (fun q => absurd hv q) (fun k' c' v' S' gk ek gc ec gv ev hf => ?_)⟩
    · skip
      have ek := nIe (by omega) (by omega) ek
      subst ek
      have ec := nIe (by omega) (by omega) ec
      subst ec
      have ev := nIe (by omega) (by omega) ev
      subst ev
      exact ⟨rfl, hR.scr hf⟩
    · skip
      have ek := nIe (by omega) (by omega) ek
      subst ek
      have ec := nIe (by omega) (by omega) ec
      subst ec
      have ev := nIe (by omega) (by omega) ev
      subst ev
      exact ⟨rfl, hR.scr hf (fun b hb => by omega)⟩
  · exact ⟨(-1), w, hW, fun S hR => C_RC_group hx hR hW (fun _ => ⟨rfl, frS.rf, hR⟩) (fun k' c' v' S' gk ek gc ec gv ev _ => absurd ⟨by rw [ek]; exact rg_n gk (by omega), by rw [ec]; exact rg_n gc (by decide), by rw [ev]; exact rg_n gv (by decide)⟩ hv), fun S hR => C_Mo_group hm hR hW (fun _ => ⟨rfl, frS.rf, hR⟩) (fun k' c' v' S' gk ek gc ec gv ev _ => absurd ⟨by rw [ek]; exact rg_n gk (by omega), by rw [ec]; exact rg_n gc (by decide), by rw [ev]; exact rg_n gv (by decide)⟩ hv)⟩
theorem P_edge {a b d : Int32} (hx : tRC sh x) (hm : tMo sh m) (hW : wOK w) : Pair G sh x m w m_RC_edge m_Mo_edge 7 60 [.int a, .int b, .int d] := by
  have h8 := hW.2.2.1.1
  by_cases hv : rg a (wq w) = true ∧ rg b 4 = true ∧ rg d 5 = true
  · obtain ⟨k, hk, rfl⟩ := rg_t (by omega) hv.1
    obtain ⟨c, hc, rfl⟩ := rg_t (by decide) hv.2.1
    obtain ⟨i, hi, rfl⟩ := rg_t (by decide) hv.2.2
    refine ⟨(edA w k c i), w, hW, fun S hR => C_RC_edge hx hR hW (fun S' q _ => absurd hv q) (fun k' c' i' S' gk ek gc ec gi ei hf => ?_), fun S hR => C_Mo_edge hm hR hW (fun q => absurd hv q) (fun k' c' i' S' gk ek gc ec gi ei hf => ?_)⟩
    · skip
      have ek := nIe (by omega) (by omega) ek
      subst ek
      have ec := nIe (by omega) (by omega) ec
      subst ec
      have ei := nIe (by omega) (by omega) ei
      subst ei
      exact ⟨rfl, hR.scr hf⟩
    · skip
      have ek := nIe (by omega) (by omega) ek
      subst ek
      have ec := nIe (by omega) (by omega) ec
      subst ec
      have ei := nIe (by omega) (by omega) ei
      subst ei
      exact ⟨rfl, hR.scr hf (fun b hb => by omega)⟩
  · exact ⟨(-1), w, hW, fun S hR => C_RC_edge hx hR hW (fun S' _ hf => ⟨rfl, hR.scr hf⟩) (fun k' c' i' S' gk ek gc ec gi ei _ => absurd ⟨by rw [ek]; exact rg_n gk (by omega), by rw [ec]; exact rg_n gc (by decide), by rw [ei]; exact rg_n gi (by decide)⟩ hv), fun S hR => C_Mo_edge hm hR hW (fun _ => ⟨rfl, frS.rf, hR⟩) (fun k' c' i' S' gk ek gc ec gi ei _ => absurd ⟨by rw [ek]; exact rg_n gk (by omega), by rw [ec]; exact rg_n gc (by decide), by rw [ei]; exact rg_n gi (by decide)⟩ hv)⟩
theorem P_two {a b d : Int32} (hx : tRC sh x) (hm : tMo sh m) (hW : wOK w) : Pair G sh x m w m_RC_two m_Mo_two 7 60 [.int a, .int b, .int d] := by
  have h8 := hW.2.2.1.1
  by_cases hv : rg a (wq w) = true ∧ rg b (wq w) = true ∧ rg d 5 = true
  · obtain ⟨k, hk, rfl⟩ := rg_t (by omega) hv.1
    obtain ⟨l, hl, rfl⟩ := rg_t (by omega) hv.2.1
    obtain ⟨i, hi, rfl⟩ := rg_t (by decide) hv.2.2
    refine ⟨(twA w k l i), w, hW, fun S hR => C_RC_two hx hR hW (fun S' q _ => absurd hv q) (fun k' l' i' S' gk ek gl el gi ei hf => ?_), fun S hR => C_Mo_two hm hR hW (fun q => absurd hv q) (fun k' l' i' gk ek gl el gi ei => ?_)⟩
    · skip
      have ek := nIe (by omega) (by omega) ek
      subst ek
      have el := nIe (by omega) (by omega) el
      subst el
      have ei := nIe (by omega) (by omega) ei
      subst ei
      exact ⟨rfl, hR.scr hf⟩
    · skip
      have ek := nIe (by omega) (by omega) ek
      subst ek
      have el := nIe (by omega) (by omega) el
      subst el
      have ei := nIe (by omega) (by omega) ei
      subst ei
      exact ⟨rfl, frS.rf, hR⟩
  · exact ⟨(-1), w, hW, fun S hR => C_RC_two hx hR hW (fun S' _ hf => ⟨rfl, hR.scr hf⟩) (fun k' l' i' S' gk ek gl el gi ei _ => absurd ⟨by rw [ek]; exact rg_n gk (by omega), by rw [el]; exact rg_n gl (by omega), by rw [ei]; exact rg_n gi (by decide)⟩ hv), fun S hR => C_Mo_two hm hR hW (fun _ => ⟨rfl, frS.rf, hR⟩) (fun k' l' i' gk ek gl el gi ei => absurd ⟨by rw [ek]; exact rg_n gk (by omega), by rw [el]; exact rg_n gl (by omega), by rw [ei]; exact rg_n gi (by decide)⟩ hv)⟩
theorem P_odds {a b : Int32} (hx : tRC sh x) (hm : tMo sh m) (hW : wOK w) : PairJ G sh x m w m_RC_odds m_Mo_odds 7 60 [.int a, .int b] := by
  have h8 := hW.2.2.1.1
  by_cases hv : rg a (wq w) = true ∧ rg b 2 = true
  · obtain ⟨k, hk, rfl⟩ := rg_t (by omega) hv.1
    refine ⟨(lowA (qct w k) (aN (wA w)) b), w, hW, fun S hR => C_RC_odds hx hR hW (fun q => absurd hv q) (fun k' S' gk ek _ hf => ?_), fun S hR => C_Mo_odds hm hR hW (fun q => absurd hv q) (fun k' gk ek _ => ?_)⟩
    · skip
      have ek := nIe (by omega) (by omega) ek
      subst ek
      exact ⟨rfl, hR.scr hf⟩
    · skip
      have ek := nIe (by omega) (by omega) ek
      subst ek
      exact ⟨rfl, frS.rf, hR⟩
  · exact ⟨(-9223372036854775808), w, hW, fun S hR => C_RC_odds hx hR hW (fun _ => ⟨rfl, frS.rf, hR⟩) (fun k' S' gk ek gb _ => absurd ⟨by rw [ek]; exact rg_n gk (by omega), gb⟩ hv), fun S hR => C_Mo_odds hm hR hW (fun _ => ⟨rfl, frS.rf, hR⟩) (fun k' gk ek gb => absurd ⟨by rw [ek]; exact rg_n gk (by omega), gb⟩ hv)⟩
theorem P_mean {a b d : Int32} (hx : tRC sh x) (hm : tMo sh m) (hW : wOK w) : PairJ G sh x m w m_RC_mean m_Mo_mean 7 60 [.int a, .int b, .int d] := by
  have h8 := hW.2.2.1.1
  by_cases hv : rg a (wq w) = true ∧ rg b 4 = true ∧ rg d 2 = true
  · obtain ⟨k, hk, rfl⟩ := rg_t (by omega) hv.1
    obtain ⟨c, hc, rfl⟩ := rg_t (by decide) hv.2.1
    refine ⟨(lowA (fb_sm (fun v => v * gct (qI w k).1 (aV (wA w)) (aN (wA w)) c v) 16) (qct w k) d), w, hW, fun S hR => C_RC_mean hx hR hW (fun q => absurd hv q) (fun k' c' S' gk ek gc ec _ hf => ?_), fun S hR => C_Mo_mean hm hR hW (fun q => absurd hv q) (fun k' c' S' gk ek gc ec _ hf => ?_)⟩
    · skip
      have ek := nIe (by omega) (by omega) ek
      subst ek
      have ec := nIe (by omega) (by omega) ec
      subst ec
      exact ⟨rfl, hR.scr hf⟩
    · skip
      have ek := nIe (by omega) (by omega) ek
      subst ek
      have ec := nIe (by omega) (by omega) ec
      subst ec
      exact ⟨rfl, hR.scr hf (fun b hb => by omega)⟩
  · exact ⟨(-9223372036854775808), w, hW, fun S hR => C_RC_mean hx hR hW (fun _ => ⟨rfl, frS.rf, hR⟩) (fun k' c' S' gk ek gc ec gd _ => absurd ⟨by rw [ek]; exact rg_n gk (by omega), by rw [ec]; exact rg_n gc (by decide), gd⟩ hv), fun S hR => C_Mo_mean hm hR hW (fun _ => ⟨rfl, frS.rf, hR⟩) (fun k' c' S' gk ek gc ec gd _ => absurd ⟨by rw [ek]; exact rg_n gk (by omega), by rw [ec]; exact rg_n gc (by decide), gd⟩ hv)⟩
end PAIR

