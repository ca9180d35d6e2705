/-! ===== both sides of a call: the others ===== -/
section PAIRB
variable {G : zG} {sh : Nat → Option zSh} {x m : Nat} {w : Wd}
theorem P_see {a b : Int32} (hx : tRC sh x) (hm : tMo sh m) (hW : wOK w) : Pair G sh x m w m_RC_see m_Mo_see 3 3 [.int a, .int b] := by
  have b3 := hW.1.1.2.2.1
  by_cases h1 : a = -1
  · exact ⟨0, wNow w (aSee (wA w) 0) (gset (wg w) 492 0), okNow hW (okClr hW.1 (Or.inl ⟨rfl, rfl⟩)), fun S hR => C_RC_see hx hR hW (fun S' _ g1 g2 => ⟨rfl, g1, g2⟩) (fun q => absurd h1 q) (fun q => absurd h1 q) (fun Y S' q => absurd h1 q), fun S hR => C_Mo_see hm hR hW (fun S' _ g1 g2 => ⟨rfl, g1, g2⟩) (fun q => absurd h1 q) (fun q => absurd h1 q) (fun Y S' q => absurd h1 q)⟩
  · by_cases h2 : rg a (aN (wA w)) = true
    · by_cases h3 : aS (wA w) = 6
      · exact ⟨(-4), w, hW, fun S hR => C_RC_see hx hR hW (fun S' q => absurd q h1) (fun _ q => absurd h2 q) (fun _ _ _ => ⟨rfl, frS.rf, hR⟩) (fun Y S' _ _ q => absurd h3 (by omega)), fun S hR => C_Mo_see hm hR hW (fun S' q => absurd q h1) (fun _ q => absurd h2 q) (fun _ _ _ => ⟨rfl, frS.rf, hR⟩) (fun Y S' _ _ q => absurd h3 (by omega))⟩
      · have hY : (if b = 0 then (0 : Int32) else 1) = 0 ∨ (if b = 0 then (0 : Int32) else 1) = 1 := by
          by_cases q : b = 0
          · exact Or.inl (if_pos q)
          · exact Or.inr (if_neg q)
        exact ⟨(nI (aS (wA w) + 1)), wNow w (aSee (wA w) (aS (wA w) + 1)) (gTold (wg w) 493 (aS (wA w)) a (if b = 0 then 0 else 1)), okNow hW (okSee hW.1 (by omega) hY), fun S hR => C_RC_see hx hR hW (fun S' q => absurd q h1) (fun _ q => absurd h2 q) (fun _ _ q => absurd q h3) (fun Y S' _ _ _ e g1 g2 => ⟨rfl, g1, by subst e; exact g2⟩), fun S hR => C_Mo_see hm hR hW (fun S' q => absurd q h1) (fun _ q => absurd h2 q) (fun _ _ q => absurd q h3) (fun Y S' _ _ _ e g1 g2 => ⟨rfl, g1, by subst e; exact g2⟩)⟩
    · exact ⟨(-1), w, hW, fun S hR => C_RC_see hx hR hW (fun S' q => absurd q h1) (fun _ _ => ⟨rfl, frS.rf, hR⟩) (fun _ q => absurd q h2) (fun Y S' _ q => absurd q h2), fun S hR => C_Mo_see hm hR hW (fun S' q => absurd q h1) (fun _ _ => ⟨rfl, frS.rf, hR⟩) (fun _ q => absurd q h2) (fun Y S' _ q => absurd q h2)⟩
theorem P_bounds {a b : Int32} (hx : tRC sh x) (hm : tMo sh m) (hW : wOK w) : Pair G sh x m w m_RC_bounds m_Mo_bounds 4 4 [.int a, .int b] := by
  by_cases hv : rg a 4 = true ∧ rg b 2 = true
  · obtain ⟨c, hc, rfl⟩ := rg_t (by decide) hv.1
    refine ⟨(if b = 0 then nI (bdS (fun v => allB (sbB (wA w) (wg w) c v) (aS (wA w))) 16).2 else (bdS (fun v => allB (sbB (wA w) (wg w) c v) (aS (wA w))) 16).1), w, hW, fun S hR => C_RC_bounds hx hR hW (fun q => absurd hv q) (fun c' h1 e _ => ?_), fun S hR => C_Mo_bounds hm hR hW (fun q => absurd hv q) (fun c' h1 e _ => ?_)⟩
    · have e := nIe (by omega) (by omega) e
      subst e
      exact ⟨rfl, frS.rf, hR⟩
    · have e := nIe (by omega) (by omega) e
      subst e
      exact ⟨rfl, frS.rf, hR⟩
  · exact ⟨(-1), w, hW, fun S hR => C_RC_bounds hx hR hW (fun _ => ⟨rfl, frS.rf, hR⟩) (fun c h1 e g => absurd ⟨by rw [e]; exact rg_n h1 (by decide), g⟩ hv), fun S hR => C_Mo_bounds hm hR hW (fun _ => ⟨rfl, frS.rf, hR⟩) (fun c h1 e g => absurd ⟨by rw [e]; exact rg_n h1 (by decide), g⟩ hv)⟩
theorem P_plan {a b : Int32} (hx : tRC sh x) (hm : tMo sh m) (hW : wOK w) : Pair G sh x m w m_RC_plan m_Mo_plan 3 3 [.int a, .int b] := by
  have b4 := hW.1.1.2.2.2.1
  by_cases h1 : a = -1
  · exact ⟨0, wNow w (aPlan (wA w) 0) (gset (wg w) 505 0), okNow hW (okClr hW.1 (Or.inr (Or.inl ⟨rfl, rfl⟩))), fun S hR => C_RC_plan hx hR hW (fun S' _ g1 g2 => ⟨rfl, g1, g2⟩) (fun q => absurd h1 q) (fun q => absurd h1 q) (fun S' q => absurd h1 q), fun S hR => C_Mo_plan hm hR hW (fun S' _ g1 g2 => ⟨rfl, g1, g2⟩) (fun q => absurd h1 q) (fun q => absurd h1 q) (fun S' q => absurd h1 q)⟩
  · by_cases h2 : vPlan w a b
    · by_cases h3 : aP (wA w) = 10
      · exact ⟨(-4), w, hW, fun S hR => C_RC_plan hx hR hW (fun S' q => absurd q h1) (fun _ q => absurd h2 q) (fun _ _ _ => ⟨rfl, frS.rf, hR⟩) (fun S' _ _ q => absurd h3 (by omega)), fun S hR => C_Mo_plan hm hR hW (fun S' q => absurd q h1) (fun _ q => absurd h2 q) (fun _ _ _ => ⟨rfl, frS.rf, hR⟩) (fun S' _ _ q => absurd h3 (by omega))⟩
      · exact ⟨(nI (aP (wA w) + 1)), wNow w (aPlan (wA w) (aP (wA w) + 1)) (gTold (wg w) 506 (aP (wA w)) a b), okNow hW (okPlan hW.1 (by omega)), fun S hR => C_RC_plan hx hR hW (fun S' q => absurd q h1) (fun _ q => absurd h2 q) (fun _ _ q => absurd q h3) (fun S' _ _ _ g1 g2 => ⟨rfl, g1, g2⟩), fun S hR => C_Mo_plan hm hR hW (fun S' q => absurd q h1) (fun _ q => absurd h2 q) (fun _ _ q => absurd q h3) (fun S' _ _ _ g1 g2 => ⟨rfl, g1, g2⟩)⟩
    · exact ⟨(-1), w, hW, fun S hR => C_RC_plan hx hR hW (fun S' q => absurd q h1) (fun _ _ => ⟨rfl, frS.rf, hR⟩) (fun _ q => absurd q h2) (fun S' _ q => absurd q h2), fun S hR => C_Mo_plan hm hR hW (fun S' q => absurd q h1) (fun _ _ => ⟨rfl, frS.rf, hR⟩) (fun _ q => absurd q h2) (fun S' _ q => absurd q h2)⟩
theorem P_ends {a b : Int32} (hx : tRC sh x) (hm : tMo sh m) (hW : wOK w) : Pair G sh x m w m_RC_ends m_Mo_ends 7 60 [.int a, .int b] := by
  have h8 := hW.2.2.1.1
  by_cases hv : rg a (wq w) = true ∧ rg b 2 = true
  · obtain ⟨k, hk, rfl⟩ := rg_t (by omega) hv.1
    refine ⟨(if b = 0 then nI (fb_ct (eI w k).1 (eR w).1) else nI (runsN (eI w k).1 (eR w).1)), w, hW, fun S hR => C_RC_ends hx hR hW (fun q => absurd hv q) (fun k' S' h1 e _ hf => ?_), fun S hR => C_Mo_ends hm hR hW (fun q => absurd hv q) (fun k' S' h1 e _ hf hg => ?_)⟩
    · have e := nIe (by omega) (by omega) e
      subst e
      exact ⟨rfl, hR.scr hf⟩
    · have e := nIe (by omega) (by omega) e
      subst e
      exact ⟨rfl, hf.weaken (fun b hb => by unfold inM; omega), hR.now (A := wA w) hf (fun b p1 p2 p3 p4 p5 p6 => by omega) hg⟩
  · exact ⟨(-1), w, hW, fun S hR => C_RC_ends hx hR hW (fun _ => ⟨rfl, frS.rf, hR⟩) (fun k S' h1 e g _ => absurd ⟨by rw [e]; exact rg_n h1 (by omega), g⟩ hv), fun S hR => C_Mo_ends hm hR hW (fun _ => ⟨rfl, frS.rf, hR⟩) (fun k S' h1 e g _ _ => absurd ⟨by rw [e]; exact rg_n h1 (by omega), g⟩ hv)⟩
theorem P_book {a b : Int32} (hx : tRC sh x) (hm : tMo sh m) (hW : wOK w) : Pair G sh x m w m_RC_book m_Mo_book 3 3 [.int a, .int b] := by
  have b5 := hW.1.1.2.2.2.2
  have h8 := hW.2.2.1.1
  by_cases h1 : a = -1
  · exact ⟨0, wNow w (aBook (wA w) 0) (gset (wg w) 526 0), okNow hW (okClr hW.1 (Or.inr (Or.inr ⟨rfl, rfl⟩))), fun S hR => C_RC_book hx hR hW (fun S' _ g1 g2 => ⟨rfl, g1, g2⟩) (fun q => absurd h1 q) (fun q => absurd h1 q) (fun q => absurd h1 q) (fun S' q => absurd h1 q), fun S hR => C_Mo_book hm hR hW (fun S' _ g1 g2 => ⟨rfl, g1, g2⟩) (fun q => absurd h1 q) (fun q => absurd h1 q) (fun q => absurd h1 q) (fun S' q => absurd h1 q)⟩
  · by_cases h2 : rg a (wq w) = true
    · by_cases hb : rg b 121 = true
      · by_cases h3 : aB (wA w) = 8
        · exact ⟨(-4), w, hW, fun S hR => C_RC_book hx hR hW (fun S' q => absurd q h1) (fun _ q => absurd h2 q) (fun _ _ q => absurd hb q) (fun _ _ _ _ => ⟨rfl, frS.rf, hR⟩) (fun S' _ _ _ q => absurd h3 (by omega)), fun S hR => C_Mo_book hm hR hW (fun S' q => absurd q h1) (fun _ q => absurd h2 q) (fun _ _ q => absurd hb q) (fun _ _ _ _ => ⟨rfl, frS.rf, hR⟩) (fun S' _ _ _ q => absurd h3 (by omega))⟩
        · have hok : gaOK (aBook (wA w) (aB (wA w) + 1)) (gTold (wg w) 527 (aB (wA w)) a b) (wq w) := by
            obtain ⟨k, hk, rfl⟩ := rg_t (by omega) h2
            exact okBook hW.1 (by omega) hk
          exact ⟨(nI (aB (wA w) + 1)), wNow w (aBook (wA w) (aB (wA w) + 1)) (gTold (wg w) 527 (aB (wA w)) a b), okNow hW hok, fun S hR => C_RC_book hx hR hW (fun S' q => absurd q h1) (fun _ q => absurd h2 q) (fun _ _ q => absurd hb q) (fun _ _ _ q => absurd q h3) (fun S' _ _ _ _ g1 g2 => ⟨rfl, g1, g2⟩), fun S hR => C_Mo_book hm hR hW (fun S' q => absurd q h1) (fun _ q => absurd h2 q) (fun _ _ q => absurd hb q) (fun _ _ _ q => absurd q h3) (fun S' _ _ _ _ g1 g2 => ⟨rfl, g1, g2⟩)⟩
      · exact ⟨(-2), w, hW, fun S hR => C_RC_book hx hR hW (fun S' q => absurd q h1) (fun _ q => absurd h2 q) (fun _ _ _ => ⟨rfl, frS.rf, hR⟩) (fun _ _ q => absurd q hb) (fun S' _ _ q => absurd q hb), fun S hR => C_Mo_book hm hR hW (fun S' q => absurd q h1) (fun _ q => absurd h2 q) (fun _ _ _ => ⟨rfl, frS.rf, hR⟩) (fun _ _ q => absurd q hb) (fun S' _ _ q => absurd q hb)⟩
    · exact ⟨(-1), w, hW, fun S hR => C_RC_book hx hR hW (fun S' q => absurd q h1) (fun _ _ => ⟨rfl, frS.rf, hR⟩) (fun _ q => absurd q h2) (fun _ q => absurd q h2) (fun S' _ q => absurd q h2), fun S hR => C_Mo_book hm hR hW (fun S' q => absurd q h1) (fun _ _ => ⟨rfl, frS.rf, hR⟩) (fun _ q => absurd q h2) (fun _ q => absurd q h2) (fun S' _ q => absurd q h2)⟩
theorem P_looked (hx : tRC sh x) (hm : tMo sh m) (hW : wOK w) : Pair G sh x m w m_RC_looked m_Mo_looked 7 60 [] :=
  ⟨(ffN (lkP w) (aB (wA w)) 0), w, hW, fun S hR => C_RC_looked hx hR hW (fun S' hf => ⟨rfl, hR.scr hf⟩), fun S hR => C_Mo_looked hm hR hW ⟨rfl, frS.rf, hR⟩⟩
theorem P_judge {a b y : Int32} (hx : tRC sh x) (hm : tMo sh m) (hW : wOK w) : Pair G sh x m w m_RC_judge m_Mo_judge 7 60 [.int a, .int b, .int y] := by
  have h8 := hW.2.2.1.1
  by_cases hv : rg a (wq w) = true ∧ rg b 6 = true
  · obtain ⟨k, hk, rfl⟩ := rg_t (by omega) hv.1
    obtain ⟨t, ht, rfl⟩ := rg_t (by decide) hv.2
    by_cases hs : wts w t = -1 ∨ wts w t = nI 4
    · refine ⟨(jdN (qI w k).1 (wti w t) (wtz w t) y (aN (wA w)) 0), w, hW, fun S hR => C_RC_judge hx hR hW (fun q => absurd hv q) (fun k' t' h1 e1 h2 e2 n1 n2 => ?_) (fun k' t' S' h1 e1 h2 e2 _ hf => ?_), fun S hR => C_Mo_judge hm hR hW (fun q => absurd hv q) (fun k' t' h1 e1 h2 e2 n1 n2 => ?_) (fun k' t' h1 e1 h2 e2 _ => ?_)⟩
      · have e2 := nIe (by omega) (by omega) e2
        subst e2
        exact absurd hs (fun q => q.elim n1 n2)
      · have e1 := nIe (by omega) (by omega) e1
        have e2 := nIe (by omega) (by omega) e2
        subst e1
        subst e2
        exact ⟨rfl, hR.scr hf⟩
      · have e2 := nIe (by omega) (by omega) e2
        subst e2
        exact absurd hs (fun q => q.elim n1 n2)
      · have e1 := nIe (by omega) (by omega) e1
        have e2 := nIe (by omega) (by omega) e2
        subst e1
        subst e2
        exact ⟨rfl, frS.rf, hR⟩
    · refine ⟨(-12), w, hW, fun S hR => C_RC_judge hx hR hW (fun q => absurd hv q) (fun k' t' h1 e1 h2 e2 n1 n2 => ⟨rfl, frS.rf, hR⟩) (fun k' t' S' h1 e1 h2 e2 q hf => ?_), fun S hR => C_Mo_judge hm hR hW (fun q => absurd hv q) (fun k' t' h1 e1 h2 e2 n1 n2 => ⟨rfl, frS.rf, hR⟩) (fun k' t' h1 e1 h2 e2 q => ?_)⟩
      · have e2 := nIe (by omega) (by omega) e2
        subst e2
        exact absurd q hs
      · have e2 := nIe (by omega) (by omega) e2
        subst e2
        exact absurd q hs
  · have no : ∀ k t, k < wq w → a = nI k → t < 6 → b = nI t → False := fun k t h1 e1 h2 e2 => hv ⟨by rw [e1]; exact rg_n h1 (by omega), by rw [e2]; exact rg_n h2 (by decide)⟩
    exact ⟨(-1), w, hW, fun S hR => C_RC_judge hx hR hW (fun _ => ⟨rfl, frS.rf, hR⟩) (fun k t h1 e1 h2 e2 _ _ => (no k t h1 e1 h2 e2).elim) (fun k t S' h1 e1 h2 e2 _ _ => (no k t h1 e1 h2 e2).elim), fun S hR => C_Mo_judge hm hR hW (fun _ => ⟨rfl, frS.rf, hR⟩) (fun k t h1 e1 h2 e2 _ _ => (no k t h1 e1 h2 e2).elim) (fun k t h1 e1 h2 e2 _ => (no k t h1 e1 h2 e2).elim)⟩
theorem P_image (hx : tRC sh x) (hm : tMo sh m) (hW : wOK w) : Pair G sh x m w m_RC_image m_Mo_image 4 2 [] :=
  ⟨(nI (aN (wA w))), wImg w, ⟨hW.1, fun _ => hW.1, hW.2.2⟩, fun S hR => C_RC_image hx hR hW (fun S' g1 g2 => ⟨rfl, g1, g2⟩), fun S hR => C_Mo_image hm hR hW (fun S' g1 g2 => ⟨rfl, g1, g2⟩)⟩
theorem P_undo (hx : tRC sh x) (hm : tMo sh m) (hW : wOK w) : Pair G sh x m w m_RC_undo m_Mo_undo 4 2 [] := by
  by_cases h : wH w = true
  · have no : wH w = false → False := fun q => by rw [h] at q; cases q
    exact ⟨(nI (aN (wA2 w))), wNow w (wA2 w) (wg2 w), okNow hW (hW.2.1 h), fun S hR => C_RC_undo hx hR hW (fun q => (no q).elim) (fun S' _ g1 g2 => ⟨rfl, g1, g2⟩), fun S hR => C_Mo_undo hm hR hW (fun q => (no q).elim) (fun S' _ g1 g2 => ⟨rfl, g1, g2⟩)⟩
  · exact ⟨(-3), w, hW, fun S hR => C_RC_undo hx hR hW (fun _ => ⟨rfl, frS.rf, hR⟩) (fun S' q => absurd q h), fun S hR => C_Mo_undo hm hR hW (fun _ => ⟨rfl, frS.rf, hR⟩) (fun S' q => absurd q h)⟩
theorem P_taken {a b : Int32} (hx : tRC sh x) (hm : tMo sh m) (hW : wOK w) : Pair G sh x m w m_RC_taken m_Mo_taken 2 3 [.int a, .int b] := by
  have h8 := hW.2.2.1.1
  by_cases hb : rg b 7 = true
  · by_cases ha : rg a (wq w) = true
    · obtain ⟨j, hj, rfl⟩ := rg_t (by decide) hb
      obtain ⟨k, hk, rfl⟩ := rg_t (by omega) ha
      refine ⟨(if nS (wnd w k) (wN w k - 1) = j then nI j else -12), w, hW, fun S hR => C_RC_taken hx hR hW (fun q => absurd hb q) (fun _ q => absurd ha q) (fun k' j' h1 e1 h2 e2 => ?_), fun S hR => C_Mo_taken hm hR hW (fun q => absurd hb q) (fun _ q => absurd ha q) (fun k' j' h1 e1 h2 e2 => ?_)⟩
      · have e1 := nIe (by omega) (by omega) e1
        have e2 := nIe (by omega) (by omega) e2
        subst e1
        subst e2
        exact ⟨rfl, frS.rf, hR⟩
      · have e1 := nIe (by omega) (by omega) e1
        have e2 := nIe (by omega) (by omega) e2
        subst e1
        subst e2
        exact ⟨rfl, frS.rf, hR⟩
    · exact ⟨(-11), w, hW, fun S hR => C_RC_taken hx hR hW (fun q => absurd hb q) (fun _ _ => ⟨rfl, frS.rf, hR⟩) (fun k j h1 e1 => absurd (by rw [e1]; exact rg_n h1 (by omega)) ha), fun S hR => C_Mo_taken hm hR hW (fun q => absurd hb q) (fun _ _ => ⟨rfl, frS.rf, hR⟩) (fun k j h1 e1 => absurd (by rw [e1]; exact rg_n h1 (by omega)) ha)⟩
  · exact ⟨(-2), w, hW, fun S hR => C_RC_taken hx hR hW (fun _ => ⟨rfl, frS.rf, hR⟩) (fun q => absurd q hb) (fun k j _ _ h2 e2 => absurd (by rw [e2]; exact rg_n h2 (by decide)) hb), fun S hR => C_Mo_taken hm hR hW (fun _ => ⟨rfl, frS.rf, hR⟩) (fun q => absurd q hb) (fun k j _ _ h2 e2 => absurd (by rw [e2]; exact rg_n h2 (by decide)) hb)⟩
theorem P_count {a : Int32} (hx : tRC sh x) (hm : tMo sh m) (hW : wOK w) : Pair G sh x m w m_RC_count m_Mo_count 1 1 [.int a] := by
  by_cases hv : rg a 7 = true
  · obtain ⟨i, hi, rfl⟩ := rg_t (by decide) hv
    refine ⟨(nI (cntA w i)), w, hW, fun S hR => C_RC_count hx hR (fun q => absurd hv q) (fun i' h1 e => ?_), fun S hR => C_Mo_count hm hR hW (fun q => absurd hv q) (fun i' h1 e => ?_)⟩
    · have e := nIe (by omega) (by omega) e
      subst e
      exact ⟨rfl, frS.rf, hR⟩
    · have e := nIe (by omega) (by omega) e
      subst e
      exact ⟨rfl, frS.rf, hR⟩
  · exact ⟨(-2), w, hW, fun S hR => C_RC_count hx hR (fun _ => ⟨rfl, frS.rf, hR⟩) (fun i h1 e => absurd (by rw [e]; exact rg_n h1 (by decide)) hv), fun S hR => C_Mo_count hm hR hW (fun _ => ⟨rfl, frS.rf, hR⟩) (fun i h1 e => absurd (by rw [e]; exact rg_n h1 (by decide)) hv)⟩
theorem P_tape {a b c : Int32} (hx : tRC sh x) (hm : tMo sh m) (hW : wOK w) : Pair G sh x m w m_RC_tape m_Mo_tape 3 3 [.int a, .int b, .int c] := by
  by_cases ha : rg a 6 = true
  · obtain ⟨t, ht, rfl⟩ := rg_t (by decide) ha
    by_cases hb1 : b = -1
    · subst hb1
      have no5 : rg (-1) 5 = true → False := fun q => by rw [show rg (-1) 5 = false by decide] at q; cases q
      refine ⟨1, wTape w t (-1, 0, fun _ => 0), okTape hW ⟨Or.inl ⟨rfl, rfl⟩, Nat.zero_le _, fun q => absurd q (by show ¬ (-1 : Int32) = nI 4; decide)⟩, fun S hR => C_RC_tape hx hR (fun q => absurd ha q) (fun t' S' h1 e _ g1 g2 => ?_) (fun _ q => absurd rfl q) (fun _ q => (no5 q).elim) (fun t' k n S' _ _ h3 e3 => ?_), fun S hR => C_Mo_tape hm hR (fun q => absurd ha q) (fun t' S' h1 e _ g1 g2 => ?_) (fun _ q => absurd rfl q) (fun _ q => (no5 q).elim) (fun t' k n S' _ _ h3 e3 => ?_)⟩
      · have e := nIe (by omega) (by omega) e
        subst e
        exact ⟨rfl, g1, g2⟩
      · exact absurd e3.symm (nI_nm1 (by omega))
      · have e := nIe (by omega) (by omega) e
        subst e
        exact ⟨rfl, g1, g2⟩
      · exact absurd e3.symm (nI_nm1 (by omega))
    · by_cases hv : rg b 5 = true ∧ c ≤ 60
      · by_cases hc : c < 0
        · exact ⟨(-14), w, hW, fun S hR => C_RC_tape hx hR (fun q => absurd ha q) (fun t' S' _ _ q => absurd q hb1) (fun _ _ q => absurd hv q) (fun _ _ _ => ⟨rfl, frS.rf, hR⟩) (fun t' k n S' _ _ _ _ hn e => absurd hc (by rw [e]; exact nI_pos (by omega))), fun S hR => C_Mo_tape hm hR (fun q => absurd ha q) (fun t' S' _ _ q => absurd q hb1) (fun _ _ q => absurd hv q) (fun _ _ _ => ⟨rfl, frS.rf, hR⟩) (fun t' k n S' _ _ _ _ hn e => absurd hc (by rw [e]; exact nI_pos (by omega)))⟩
        · obtain ⟨k, hk, rfl⟩ := rg_t (by decide) hv.1
          obtain ⟨n, hn, rfl⟩ := nI_of hc
          have hn60 := i_le (b := 60) hn (by decide) hv.2
          refine ⟨1, wTape w t (nI k, n, fun _ => 0), okTape hW ⟨Or.inr ⟨k, hk, rfl⟩, hn60, fun _ _ _ => Or.inl rfl⟩, fun S hR => C_RC_tape hx hR (fun q => absurd ha q) (fun t' S' _ _ q => absurd q hb1) (fun _ _ q => absurd hv q) (fun _ _ q => absurd q hc) (fun t' k' n' S' h1 e1 h2 e2 h3 e3 g1 g2 => ?_), fun S hR => C_Mo_tape hm hR (fun q => absurd ha q) (fun t' S' _ _ q => absurd q hb1) (fun _ _ q => absurd hv q) (fun _ _ q => absurd q hc) (fun t' k' n' S' h1 e1 h2 e2 h3 e3 g1 g2 => ?_)⟩
          · have e1 := nIe (by omega) (by omega) e1
            have e2 := nIe (by omega) (by omega) e2
            have e3 := nIe (by omega) (by omega) e3
            subst e1
            subst e2
            subst e3
            exact ⟨rfl, g1, g2⟩
          · have e1 := nIe (by omega) (by omega) e1
            have e2 := nIe (by omega) (by omega) e2
            have e3 := nIe (by omega) (by omega) e3
            subst e1
            subst e2
            subst e3
            exact ⟨rfl, g1, g2⟩
      · have no : ∀ k n, k < 5 → b = nI k → n ≤ 60 → c = nI n → False := fun k n h1 e1 h2 e2 => hv ⟨by rw [e1]; exact rg_n h1 (by decide), by rw [e2]; exact nI_le (b := 60) h2 (by decide)⟩
        have nos : rg b 5 = true → c < 0 → False := fun q1 q2 => hv ⟨q1, Int32.le_of_lt (Int32.lt_trans q2 (by decide))⟩
        exact ⟨(-2), w, hW, fun S hR => C_RC_tape hx hR (fun q => absurd ha q) (fun t' S' _ _ q => absurd q hb1) (fun _ _ _ => ⟨rfl, frS.rf, hR⟩) (fun _ q1 q2 => (nos q1 q2).elim) (fun t' k n S' _ _ h2 e2 h3 e3 => (no k n h2 e2 h3 e3).elim), fun S hR => C_Mo_tape hm hR (fun q => absurd ha q) (fun t' S' _ _ q => absurd q hb1) (fun _ _ _ => ⟨rfl, frS.rf, hR⟩) (fun _ q1 q2 => (nos q1 q2).elim) (fun t' k n S' _ _ h2 e2 h3 e3 => (no k n h2 e2 h3 e3).elim)⟩
  · exact ⟨(-1), w, hW, fun S hR => C_RC_tape hx hR (fun _ => ⟨rfl, frS.rf, hR⟩) (fun t' S' h1 e => absurd (by rw [e]; exact rg_n h1 (by decide)) ha) (fun q => absurd q ha) (fun q => absurd q ha) (fun t' k n S' h1 e => absurd (by rw [e]; exact rg_n h1 (by decide)) ha), fun S hR => C_Mo_tape hm hR (fun _ => ⟨rfl, frS.rf, hR⟩) (fun t' S' h1 e => absurd (by rw [e]; exact rg_n h1 (by decide)) ha) (fun q => absurd q ha) (fun q => absurd q ha) (fun t' k n S' h1 e => absurd (by rw [e]; exact rg_n h1 (by decide)) ha)⟩
theorem fit4 (y : Int64) : fitv 4 y = 0 ∨ fitv 4 y = 1 := by
  show (if y = 0 then (0 : Int64) else 1) = 0 ∨ (if y = 0 then (0 : Int64) else 1) = 1
  by_cases q : y = 0
  · exact Or.inl (if_pos q)
  · exact Or.inr (if_neg q)
theorem P_item {a b : Int32} {y : Int64} (hx : tRC sh x) (hm : tMo sh m) (hW : wOK w) : Pair G sh x m w m_RC_item m_Mo_item 2 3 [.int a, .int b, .long y] := by
  by_cases ha : rg a 6 = true
  · obtain ⟨t, ht, rfl⟩ := rg_t (by decide) ha
    have hO := hW.2.2.2.2 t ht
    have hz60 : wtz w t ≤ 60 := hO.2.1
    have tt : ∀ t', t' < 6 → nI t = nI t' → t = t' := fun t' h e => nIe (by omega) (by omega) e
    by_cases hs : wts w t = -1
    · refine ⟨(-11), w, hW, fun S hR => C_RC_item hx hR hW (fun q => absurd ha q) (fun t' _ _ _ => ⟨rfl, frS.rf, hR⟩) (fun t' h1 e q => ?_) (fun t' k i S' h1 e h2 e2 => ?_), fun S hR => C_Mo_item hm hR hW (fun q => absurd ha q) (fun t' _ _ _ => ⟨rfl, frS.rf, hR⟩) (fun t' h1 e q => ?_) (fun t' k i S' h1 e h2 e2 => ?_)⟩
      · have e := tt t' h1 e
        subst e
        exact absurd hs q
      · have e := tt t' h1 e
        subst e
        exact absurd (e2.symm.trans hs) (nI_nm1 (by omega))
      · have e := tt t' h1 e
        subst e
        exact absurd hs q
      · have e := tt t' h1 e
        subst e
        exact absurd (e2.symm.trans hs) (nI_nm1 (by omega))
    · by_cases hb : rg b (wtz w t) = true
      · obtain ⟨i, hi, rfl⟩ := rg_t (by omega) hb
        obtain ⟨k, hk, ek⟩ : ∃ k, k < 5 ∧ wts w t = nI k := hO.1.resolve_left (fun q => hs q.1)
        have hT : tpOK (wts w t, wtz w t, lset (wti w t) i (fitv k y)) := by
          refine ⟨Or.inr ⟨k, hk, ek⟩, hz60, fun q j hj => ?_⟩
          have q : wts w t = nI 4 := q
          have k4 : k = 4 := nIe (by omega) (by decide) (ek.symm.trans q)
          subst k4
          show lset (wti w t) i (fitv 4 y) j = 0 ∨ lset (wti w t) i (fitv 4 y) j = 1
          by_cases e : j = i
          · subst e; rw [lset_s]; exact fit4 y
          · rw [lset_n e]; exact hO.2.2 q j hj
        refine ⟨1, wTape w t (wts w t, wtz w t, lset (wti w t) i (fitv k y)), okTape hW hT, fun S hR => C_RC_item hx hR hW (fun q => absurd ha q) (fun t' h1 e q => ?_) (fun t' h1 e _ q => ?_) (fun t' k' i' S' h1 e1 h2 e2 h3 e3 g1 g2 => ?_), fun S hR => C_Mo_item hm hR hW (fun q => absurd ha q) (fun t' h1 e q => ?_) (fun t' h1 e _ q => ?_) (fun t' k' i' S' h1 e1 h2 e2 h3 e3 g1 g2 => ?_)⟩
        · have e := tt t' h1 e
          subst e
          exact absurd q hs
        · have e := tt t' h1 e
          subst e
          exact absurd hb q
        · have e1 := tt t' h1 e1
          subst e1
          have e2 := nIe (by omega) (by omega) (ek.symm.trans e2)
          have e3 := nIe (by omega) (by omega) e3
          subst e2
          subst e3
          exact ⟨rfl, g1, g2⟩
        · have e := tt t' h1 e
          subst e
          exact absurd q hs
        · have e := tt t' h1 e
          subst e
          exact absurd hb q
        · have e1 := tt t' h1 e1
          subst e1
          have e2 := nIe (by omega) (by omega) (ek.symm.trans e2)
          have e3 := nIe (by omega) (by omega) e3
          subst e2
          subst e3
          exact ⟨rfl, g1, g2⟩
      · refine ⟨(-13), w, hW, fun S hR => C_RC_item hx hR hW (fun q => absurd ha q) (fun t' h1 e q => ?_) (fun t' h1 e _ q => ⟨rfl, frS.rf, hR⟩) (fun t' k i S' h1 e1 h2 e2 h3 e3 => ?_), fun S hR => C_Mo_item hm hR hW (fun q => absurd ha q) (fun t' h1 e q => ?_) (fun t' h1 e _ q => ⟨rfl, frS.rf, hR⟩) (fun t' k i S' h1 e1 h2 e2 h3 e3 => ?_)⟩
        · have e := tt t' h1 e
          subst e
          exact absurd q hs
        · have e1 := tt t' h1 e1
          subst e1
          exact absurd (by rw [e3]; exact rg_n h3 (by omega)) hb
        · have e := tt t' h1 e
          subst e
          exact absurd q hs
        · have e1 := tt t' h1 e1
          subst e1
          exact absurd (by rw [e3]; exact rg_n h3 (by omega)) hb
  · exact ⟨(-1), w, hW, fun S hR => C_RC_item hx hR hW (fun _ => ⟨rfl, frS.rf, hR⟩) (fun t h1 e => absurd (by rw [e]; exact rg_n h1 (by decide)) ha) (fun t h1 e => absurd (by rw [e]; exact rg_n h1 (by decide)) ha) (fun t k i S' h1 e => absurd (by rw [e]; exact rg_n h1 (by decide)) ha), fun S hR => C_Mo_item hm hR hW (fun _ => ⟨rfl, frS.rf, hR⟩) (fun t h1 e => absurd (by rw [e]; exact rg_n h1 (by decide)) ha) (fun t h1 e => absurd (by rw [e]; exact rg_n h1 (by decide)) ha) (fun t k i S' h1 e => absurd (by rw [e]; exact rg_n h1 (by decide)) ha)⟩
theorem P_read {a b : Int32} (hx : tRC sh x) (hm : tMo sh m) (hW : wOK w) : PairJ G sh x m w m_RC_read m_Mo_read 2 3 [.int a, .int b] := by
  by_cases hv : ∃ t, t < 6 ∧ a = nI t ∧ rg b (wtz w t) = true
  · obtain ⟨t, ht, rfl, hb⟩ := hv
    have hz60 : wtz w t ≤ 60 := (hW.2.2.2.2 t ht).2.1
    obtain ⟨i, hi, rfl⟩ := rg_t (by omega) hb
    refine ⟨(wti w t i), w, hW, fun S hR => C_RC_read hx hR hW (fun q => absurd hb (q t ht rfl)) (fun t' i' h1 e1 h2 e2 => ?_), fun S hR => C_Mo_read hm hR hW (fun q => absurd hb (q t ht rfl)) (fun t' i' h1 e1 h2 e2 => ?_)⟩
    · have e1 := nIe (by omega) (by omega) e1
      subst e1
      have e2 := nIe (by omega) (by omega) e2
      subst e2
      exact ⟨rfl, frS.rf, hR⟩
    · have e1 := nIe (by omega) (by omega) e1
      subst e1
      have e2 := nIe (by omega) (by omega) e2
      subst e2
      exact ⟨rfl, frS.rf, hR⟩
  · have no : ∀ t i, t < 6 → a = nI t → i < wtz w t → b = nI i → False := fun t i h1 e1 h2 e2 => hv ⟨t, h1, e1, by rw [e2]; exact rg_n h2 (by have := (hW.2.2.2.2 t h1).2.1; have e : wtz w t ≤ 60 := this; omega)⟩
    exact ⟨(-9223372036854775808), w, hW, fun S hR => C_RC_read hx hR hW (fun _ => ⟨rfl, frS.rf, hR⟩) (fun t i h1 e1 h2 e2 => (no t i h1 e1 h2 e2).elim), fun S hR => C_Mo_read hm hR hW (fun _ => ⟨rfl, frS.rf, hR⟩) (fun t i h1 e1 h2 e2 => (no t i h1 e1 h2 e2).elim)⟩
theorem P_shift {a b c d e : Int32} (hx : tRC sh x) (hm : tMo sh m) (hW : wOK w) : Pair G sh x m w m_RC_shift m_Mo_shift 2 3 [.int a, .int b, .int c, .int d, .int e] := by
  by_cases ha : rg a 6 = true ∧ rg c 6 = true
  · obtain ⟨t, ht, rfl⟩ := rg_t (by decide) ha.1
    obtain ⟨u, hu, rfl⟩ := rg_t (by decide) ha.2
    have tt : ∀ z z', z < 6 → z' < 6 → nI z = nI z' → z = z' := fun z z' h h' e => nIe (by omega) (by omega) e
    have hO := hW.2.2.2.2 t ht
    have hO2 := hW.2.2.2.2 u hu
    have hz60 : wtz w t ≤ 60 := hO.2.1
    have hy60 : wtz w u ≤ 60 := hO2.2.1
    by_cases hs : wts w t = -1 ∨ wts w u = -1
    · refine ⟨(-11), w, hW, fun S hR => C_RC_shift hx hR hW (fun q => absurd ha q) (fun t' u' _ _ _ _ _ => ⟨rfl, frS.rf, hR⟩) (fun t' u' h1 h2 e1 e2 q => ?_) (fun t' u' h1 h2 e1 e2 q => ?_) (fun t' u' i j n S' h1 h2 e1 e2 q => ?_), fun S hR => C_Mo_shift hm hR hW (fun q => absurd ha q) (fun t' u' _ _ _ _ _ => ⟨rfl, frS.rf, hR⟩) (fun t' u' h1 h2 e1 e2 q => ?_) (fun t' u' h1 h2 e1 e2 q => ?_) (fun t' u' i j n S' h1 h2 e1 e2 q => ?_)⟩ <;>
        (have e1 := tt _ _ ht h1 e1
         have e2 := tt _ _ hu h2 e2
         subst e1
         subst e2
         exact absurd hs q)
    · by_cases hq : wts w t = wts w u
      · by_cases hv : (0 ≤ e ∧ 0 ≤ b ∧ b ≤ nI (wtz w t) - e) ∧ (0 ≤ e ∧ 0 ≤ d ∧ d ≤ nI (wtz w u) - e)
        · obtain ⟨i, n, rfl, rfl, hin⟩ := str_sub hz60 hv.1.1 hv.1.2.1 hv.1.2.2
          obtain ⟨j, n2, rfl, en, hjn⟩ := str_sub hy60 hv.2.1 hv.2.2.1 hv.2.2.2
          have en := nIe (by omega) (by omega) en
          subst en
          have hT : tpOK (wts w u, wtz w u, lcpy (wti w t) (wti w u) i j n) := by
            refine ⟨hO2.1, hy60, fun q k hk => ?_⟩
            have q : wts w u = nI 4 := q
            show lcpy (wti w t) (wti w u) i j n k = 0 ∨ lcpy (wti w t) (wti w u) i j n k = 1
            unfold lcpy
            split
            · exact hO.2.2 (hq.trans q) _ (by omega)
            · exact hO2.2.2 q k hk
          refine ⟨(nI n), wTape w u (wts w u, wtz w u, lcpy (wti w t) (wti w u) i j n), okTape hW hT, fun S hR => C_RC_shift hx hR hW (fun q => absurd ha q) (fun t' u' h1 h2 e1 e2 q => ?_) (fun t' u' h1 h2 e1 e2 _ q => ?_) (fun t' u' h1 h2 e1 e2 _ _ q => ?_) (fun t' u' i' j' n' S' h1 h2 e1 e2 _ _ e3 e4 e5 f1 f2 g1 g2 => ?_), fun S hR => C_Mo_shift hm hR hW (fun q => absurd ha q) (fun t' u' h1 h2 e1 e2 q => ?_) (fun t' u' h1 h2 e1 e2 _ q => ?_) (fun t' u' h1 h2 e1 e2 _ _ q => ?_) (fun t' u' i' j' n' S' h1 h2 e1 e2 _ _ e3 e4 e5 f1 f2 g1 g2 => ?_)⟩
          · have e1 := tt _ _ ht h1 e1
            have e2 := tt _ _ hu h2 e2
            subst e1
            subst e2
            exact absurd q hs
          · have e1 := tt _ _ ht h1 e1
            have e2 := tt _ _ hu h2 e2
            subst e1
            subst e2
            exact absurd hq q
          · have e1 := tt _ _ ht h1 e1
            have e2 := tt _ _ hu h2 e2
            subst e1
            subst e2
            exact absurd hv q
          · have e1 := tt _ _ ht h1 e1
            have e2 := tt _ _ hu h2 e2
            subst e1
            subst e2
            have e3 := nIe (by omega) (by omega) e3
            have e4 := nIe (by omega) (by omega) e4
            have e5 := nIe (by omega) (by omega) e5
            subst e3
            subst e4
            subst e5
            exact ⟨rfl, g1, g2⟩
          · have e1 := tt _ _ ht h1 e1
            have e2 := tt _ _ hu h2 e2
            subst e1
            subst e2
            exact absurd q hs
          · have e1 := tt _ _ ht h1 e1
            have e2 := tt _ _ hu h2 e2
            subst e1
            subst e2
            exact absurd hq q
          · have e1 := tt _ _ ht h1 e1
            have e2 := tt _ _ hu h2 e2
            subst e1
            subst e2
            exact absurd hv q
          · have e1 := tt _ _ ht h1 e1
            have e2 := tt _ _ hu h2 e2
            subst e1
            subst e2
            have e3 := nIe (by omega) (by omega) e3
            have e4 := nIe (by omega) (by omega) e4
            have e5 := nIe (by omega) (by omega) e5
            subst e3
            subst e4
            subst e5
            exact ⟨rfl, g1, g2⟩
        · have no : ∀ i j n, b = nI i → d = nI j → e = nI n → i + n ≤ wtz w t → j + n ≤ wtz w u → False := fun i j n e1 e2 e3 h1 h2 => hv (by
            rw [e1, e2, e3, pk_sub (show n ≤ wtz w t by omega), pk_sub (show n ≤ wtz w u by omega)]
            exact ⟨⟨nI_pos' (by omega), nI_pos' (by omega), nI_le (by omega) (by omega)⟩, nI_pos' (by omega), nI_pos' (by omega), nI_le (by omega) (by omega)⟩)
          refine ⟨(-13), w, hW, fun S hR => C_RC_shift hx hR hW (fun q => absurd ha q) (fun t' u' h1 h2 e1 e2 q => ?_) (fun t' u' h1 h2 e1 e2 _ q => ?_) (fun t' u' h1 h2 e1 e2 _ _ q => ⟨rfl, frS.rf, hR⟩) (fun t' u' i' j' n' S' h1 h2 e1 e2 _ _ e3 e4 e5 f1 f2 g1 g2 => ?_), fun S hR => C_Mo_shift hm hR hW (fun q => absurd ha q) (fun t' u' h1 h2 e1 e2 q => ?_) (fun t' u' h1 h2 e1 e2 _ q => ?_) (fun t' u' h1 h2 e1 e2 _ _ q => ⟨rfl, frS.rf, hR⟩) (fun t' u' i' j' n' S' h1 h2 e1 e2 _ _ e3 e4 e5 f1 f2 g1 g2 => ?_)⟩ <;>
            (have e1 := tt _ _ ht h1 e1
             have e2 := tt _ _ hu h2 e2
             subst e1
             subst e2
             first
               | exact absurd q hs
               | exact absurd hq q
               | exact (no i' j' n' e3 e4 e5 f1 f2).elim)
      · refine ⟨(-12), w, hW, fun S hR => C_RC_shift hx hR hW (fun q => absurd ha q) (fun t' u' h1 h2 e1 e2 q => ?_) (fun t' u' _ _ _ _ _ _ => ⟨rfl, frS.rf, hR⟩) (fun t' u' h1 h2 e1 e2 _ q => ?_) (fun t' u' i j n S' h1 h2 e1 e2 _ q => ?_), fun S hR => C_Mo_shift hm hR hW (fun q => absurd ha q) (fun t' u' h1 h2 e1 e2 q => ?_) (fun t' u' _ _ _ _ _ _ => ⟨rfl, frS.rf, hR⟩) (fun t' u' h1 h2 e1 e2 _ q => ?_) (fun t' u' i j n S' h1 h2 e1 e2 _ q => ?_)⟩ <;>
          (have e1 := tt _ _ ht h1 e1
           have e2 := tt _ _ hu h2 e2
           subst e1
           subst e2
           first
             | exact absurd q hs
             | exact absurd q hq)
  · have no : ∀ t u, t < 6 → u < 6 → a = nI t → c = nI u → False := fun t u h1 h2 e1 e2 => ha ⟨by rw [e1]; exact rg_n h1 (by decide), by rw [e2]; exact rg_n h2 (by decide)⟩
    exact ⟨(-1), w, hW, fun S hR => C_RC_shift hx hR hW (fun _ => ⟨rfl, frS.rf, hR⟩) (fun t u h1 h2 e1 e2 => (no t u h1 h2 e1 e2).elim) (fun t u h1 h2 e1 e2 => (no t u h1 h2 e1 e2).elim) (fun t u h1 h2 e1 e2 => (no t u h1 h2 e1 e2).elim) (fun t u i j n S' h1 h2 e1 e2 => (no t u h1 h2 e1 e2).elim), fun S hR => C_Mo_shift hm hR hW (fun _ => ⟨rfl, frS.rf, hR⟩) (fun t u h1 h2 e1 e2 => (no t u h1 h2 e1 e2).elim) (fun t u h1 h2 e1 e2 => (no t u h1 h2 e1 e2).elim) (fun t u h1 h2 e1 e2 => (no t u h1 h2 e1 e2).elim) (fun t u i j n S' h1 h2 e1 e2 => (no t u h1 h2 e1 e2).elim)⟩
end PAIRB

