/-! ===== RunColumns: the text, what is told by hand, the image, tapes ===== -/
theorem rRC.upd {S S' : zSt} {x : Nat} {w : Wd} {P : Nat → Prop} {qs : Nat × (Nat → Nat × Nd)} {tx : Nat × (Nat → Int32)} {ts : Nat → Int32 × Nat × (Nat → Int64)} (h : rRC S x w) (hf : frS S P S') (hP : ∀ b, x + 1 ≤ b → b < x + 187 → ¬ P b) (h2 : zi S' x 2 = zi S x 2)
    (hq : qs.1 ≤ 8 ∧ zi S' x 5 = nI qs.1 ∧ ∀ k, k < qs.1 → rQuery S' (x + 315 + 5 * k) (qs.2 k).1 (qs.2 k).2) (ht : zi S' (x + 187) 1 = nI tx.1 ∧ ∀ i, i < tx.1 → za S' (x + 187 + 1) i = tx.2 i)
    (hts : ∀ t, t < 6 → zi S' (x + 355 + 2 * t) 1 = (ts t).1 ∧ zi S' (x + 355 + 2 * t) 2 = nI (ts t).2.1 ∧ ∀ i, i < 60 → zj S' (x + 355 + 2 * t + 1) i = (ts t).2.2 i) : rRC S' x (w.1, w.2.1, qs, tx, ts) := by
  obtain ⟨r0, ⟨c1, c2, c3⟩, rh, rh2, -, -, -⟩ := h
  exact ⟨r0.fr hf (fun b b1 b2 => hP b (by omega) (by omega)), ⟨(congrFun (hf _ (hP _ (by omega) (by omega))).1 0).trans c1, (congrFun (hf _ (hP _ (by omega) (by omega))).1 0).trans c2, (congrFun (hf _ (hP _ (by omega) (by omega))).1 0).trans c3⟩, h2.trans rh, fun q => (rh2 q).fr hf (fun b b1 b2 => hP b (by omega) (by omega)), hq, ht, hts⟩
abbrev wText (w : Wd) (L : Nat) (tx : Nat → Int32) : Wd := (w.1, w.2.1, w.2.2.1, (L, tx), w.2.2.2.2)
abbrev wTape (w : Wd) (t : Nat) (T : Int32 × Nat × (Nat → Int64)) : Wd := (w.1, w.2.1, w.2.2.1, w.2.2.2.1, fun u => if u = t then T else w.2.2.2.2 u)
abbrev wNow (w : Wd) (A : Ab) (ga : Nat → Int32) : Wd := ((A, ga), w.2)
/-- the text has changed -/
theorem rRC.text {S S' : zSt} {x L : Nat} {w : Wd} {P : Nat → Prop} {tx : Nat → Int32} (h : rRC S x w) (hf : frS S P S') (hP : ∀ b, x ≤ b → b < x + 367 → b < x + 187 ∨ x + 315 ≤ b → ¬ P b) (ht : zi S' (x + 187) 1 = nI L ∧ ∀ i, i < L → za S' (x + 187 + 1) i = tx i) : rRC S' x (wText w L tx) := by
  obtain ⟨-, -, -, -, ⟨rq8, rq0, rq⟩, -, rt⟩ := id h
  refine h.upd (qs := w.2.2.1) (tx := (L, tx)) (ts := w.2.2.2.2) hf (fun b b1 b2 => hP b (by omega) (by omega) (by omega)) (congrFun (hf _ (hP _ (by omega) (by omega) (by omega))).1 2) ⟨rq8, (congrFun (hf _ (hP _ (by omega) (by omega) (by omega))).1 5).trans rq0, fun k hk => ?_⟩ ht (fun t ht => ⟨(congrFun (hf _ (hP _ (by omega) (by omega) (by omega))).1 1).trans (rt t ht).1, (congrFun (hf _ (hP _ (by omega) (by omega) (by omega))).1 2).trans (rt t ht).2.1, fun i hi => (congrFun (hf _ (hP _ (by omega) (by omega) (by omega))).2.2.2 i).trans ((rt t ht).2.2 i hi)⟩)
  have hk : k < wq w := hk
  exact (rq k hk).fr hf (fun b b1 b2 => hP b (by omega) (by omega) (by omega))
/-- one tape has changed -/
theorem rRC.tape {S S' : zSt} {x t : Nat} {w : Wd} {P : Nat → Prop} {T : Int32 × Nat × (Nat → Int64)} (h : rRC S x w) (hf : frS S P S') (ht6 : t < 6) (hP : ∀ b, x ≤ b → b < x + 367 → b < x + 355 + 2 * t ∨ x + 357 + 2 * t ≤ b → ¬ P b) (ht : zi S' (x + 355 + 2 * t) 1 = T.1 ∧ zi S' (x + 355 + 2 * t) 2 = nI T.2.1 ∧ ∀ i, i < 60 → zj S' (x + 355 + 2 * t + 1) i = T.2.2 i) : rRC S' x (wTape w t T) := by
  obtain ⟨-, -, -, -, ⟨rq8, rq0, rq⟩, ⟨rL, rtx⟩, rt⟩ := id h
  refine h.upd (qs := w.2.2.1) (tx := w.2.2.2.1) (ts := fun u => if u = t then T else w.2.2.2.2 u) hf (fun b b1 b2 => hP b (by omega) (by omega) (by omega)) (congrFun (hf _ (hP _ (by omega) (by omega) (by omega))).1 2) ⟨rq8, (congrFun (hf _ (hP _ (by omega) (by omega) (by omega))).1 5).trans rq0, fun k hk => ?_⟩ ⟨(congrFun (hf _ (hP _ (by omega) (by omega) (by omega))).1 1).trans rL, fun i hi => (congrFun (hf _ (hP _ (by omega) (by omega) (by omega))).2.2.1 i).trans (rtx i hi)⟩ (fun u hu => ?_)
  · have hk : k < wq w := hk
    exact (rq k hk).fr hf (fun b b1 b2 => hP b (by omega) (by omega) (by omega))
  · by_cases e : u = t
    · subst e
      rw [if_pos rfl]
      exact ht
    · rw [if_neg e]
      exact ⟨(congrFun (hf _ (hP _ (by omega) (by omega) (by omega))).1 1).trans (rt u hu).1, (congrFun (hf _ (hP _ (by omega) (by omega) (by omega))).1 2).trans (rt u hu).2.1, fun i hi => (congrFun (hf _ (hP _ (by omega) (by omega) (by omega))).2.2.2 i).trans ((rt u hu).2.2 i hi)⟩
/-- what is told by hand has changed -/
theorem rState.told {S S' : zSt} {s : Nat} {A A' : Ab} {ga ga' : Nat → Int32} {P : Nat → Prop} (h : rState S s A ga) (hf : frS S P S') (hP : ∀ b, P b → s + 84 ≤ b ∧ b < s + 93) (hA : aN A' = aN A ∧ aM A' = aM A ∧ aV A' = aV A ∧ aT A' = aT A) (h4 : rPairs S' (s + 84) 6 (aS A') 493 ga') (h5 : rPairs S' (s + 87) 10 (aP A') 506 ga') (h6 : rPairs S' (s + 90) 8 (aB A') 527 ga') : rState S' s A' ga' := by
  obtain ⟨h1, h2, h3, -⟩ := h
  obtain ⟨a1, a2, a3, a4⟩ := hA
  unfold rState
  rw [a1, a2, a3, a4]
  have o : ∀ b, b < s + 84 → ¬ P b := fun b hb q => by have := hP b q; omega
  exact ⟨h1.fr hf (fun b b1 b2 => o _ (by omega)), (congrFun (hf _ (o _ (by omega))).1 2).trans h2, fun i hi => (congrFun (hf _ (o _ (by omega))).2.2.1 i).trans (h3 i hi), h4, h5, h6⟩
section RCB
variable {G : zG} {sh : Nat → Option zSh} {S : zSt} {x a n c : Nat} {w : Wd} {P : Option Value → zSt → Prop}
theorem C_Reader_append {y : Int32} {L : Nat} (hT : tReader sh a) (h0 : zi S a 1 = nI L) (hL : L < 100) : zD G m_Reader_append 1 sh [.ref a, .int y] S none (zsi (zsa S (a + 1) L (bsx y)) a 1 (nI (L + 1))) := by
  obtain ⟨t1, t2⟩ := hT
  refine s_methD 0 ⟨p_Reader, rfl, Nat.le_of_ble_eq_true rfl⟩ rfl (fun sz => ?_)
  refine z_aload_n dX4_append_0 rfl ?_
  refine s_geti f_Reader_15 dX4_append_1 (by assumption) rfl ?_
  refine z_bipush 100 dX4_append_4 (by decide) ?_
  refine z_icmp_ge 30 dX4_append_6 (by decide) (fun c6 => ?_) (fun c6 => ?_)
  · rw [h0] at c6
    exact absurd c6 (nI_ge (b := 100) hL (by decide))
  · refine z_aload_n dX4_append_9 rfl ?_
    refine s_getr f_Reader_9 dX4_append_10 (by assumption) rfl ?_
    refine z_aload_n dX4_append_13 rfl ?_
    refine s_geti f_Reader_15 dX4_append_14 (by assumption) rfl ?_
    refine z_iload_n dX4_append_17 rfl ?_
    rw [h0]
    refine z_i2b dX4_append_18 ?_
    refine s_bast dX4_append_19 t2 (vp_in_nI hL (by decide)) ?_
    rw [nI_clamp (by omega), show ∀ z : Int32, z.toInt8.toInt32.toInt8.toInt32 = z.toInt8.toInt32 from bsx2]
    refine z_aload_n dX4_append_20 rfl ?_
    refine z_dup dX4_append_21 rfl ?_
    refine s_geti f_Reader_15 dX4_append_22 (by assumption) rfl ?_
    refine z_iconst 1 dX4_append_25 rfl ?_
    refine z_iadd dX4_append_26 ?_
    rw [h0, nI_1]
    refine s_puti f_Reader_15 dX4_append_27 (by assumption) rfl ⟨rfl, rfl⟩ ?_
    refine z_return dX4_append_30 rfl ⟨Nat.le_refl _, Nat.le_refl _⟩ ?_
    exact ⟨rfl, rfl, rfl⟩
theorem C_Pairs_appendR {y z : Int32} (hT : tPairs sh a n) (h0 : zi S a 0 = nI n) (h3 : zi S a 3 = nI c) (hn : n < 2 ^ 31) (hc : c ≤ n) : zR G m_Pairs_append 1 sh [.ref a, .int y, .int z] S (fun r S' => (c = n ∧ r = some (.int (-4)) ∧ S' = S) ∨ (c < n ∧ r = some (.int (nI (c + 1))) ∧ S' = zsi (zsa (zsa S (a + 1) c y) (a + 2) c z) a 3 (nI (c + 1)))) := by
  obtain ⟨t1, t2, t3⟩ := hT
  refine s_meth 0 ⟨p_Pairs, rfl, Nat.le_of_ble_eq_true rfl⟩ rfl (fun sz => ?_)
  refine z_aload_n dX2_append_0 rfl ?_
  refine s_geti f_Pairs_9 dX2_append_1 (by assumption) rfl ?_
  refine z_aload_n dX2_append_4 rfl ?_
  refine s_geti f_Pairs_15 dX2_append_5 (by assumption) rfl ?_
  refine z_icmp_lt 14 dX2_append_8 (by decide) (fun c8 => ?_) (fun c8 => ?_)
  · rw [h0, h3] at c8
    have hcn := i_lt (by omega) (by omega) c8
    refine z_aload_n dX2_append_14 rfl ?_
    refine s_getr f_Pairs_18 dX2_append_15 (by assumption) rfl ?_
    refine z_aload_n dX2_append_18 rfl ?_
    refine s_geti f_Pairs_9 dX2_append_19 (by assumption) rfl ?_
    refine z_iload_n dX2_append_22 rfl ?_
    rw [h3]
    refine s_iast dX2_append_23 t2 (vp_in_nI hcn hn) ?_
    refine z_aload_n dX2_append_24 rfl ?_
    refine s_getr f_Pairs_22 dX2_append_25 (by assumption) rfl ?_
    refine z_aload_n dX2_append_28 rfl ?_
    refine s_geti f_Pairs_9 dX2_append_29 (by assumption) rfl ?_
    refine z_iload_n dX2_append_32 rfl ?_
    rw [h3]
    refine s_iast dX2_append_33 t3 (vp_in_nI hcn hn) ?_
    refine z_aload_n dX2_append_34 rfl ?_
    refine z_dup dX2_append_35 rfl ?_
    refine s_geti f_Pairs_9 dX2_append_36 (by assumption) rfl ?_
    rw [nI_clamp (by omega)]
    refine z_iconst 1 dX2_append_39 rfl ?_
    refine z_iadd dX2_append_40 ?_
    rw [h3, nI_1]
    refine s_puti f_Pairs_9 dX2_append_41 (by assumption) rfl ⟨rfl, rfl⟩ ?_
    refine z_aload_n dX2_append_44 rfl ?_
    refine s_geti f_Pairs_9 dX2_append_45 (by assumption) rfl ?_
    rw [zi_si]
    refine z_ireturn dX2_append_48 rfl rfl ⟨Nat.le_refl _, Nat.le_refl _⟩ ?_
    first
      | exact ⟨rfl, _, rfl, Or.inl ⟨hcn, rfl, rfl⟩⟩
      | exact ⟨rfl, _, rfl, Or.inr ⟨hcn, rfl, rfl⟩⟩
  · rw [h0, h3] at c8
    have hcn : c = n := by have := i_nlt (by omega) c8; omega
    refine z_bipush (-4) dX2_append_11 (by decide) ?_
    refine z_ireturn dX2_append_13 rfl rfl ⟨Nat.le_refl _, Nat.le_refl _⟩ ?_
    first
      | exact ⟨rfl, _, rfl, Or.inl ⟨hcn, rfl, rfl⟩⟩
      | exact ⟨rfl, _, rfl, Or.inr ⟨hcn, rfl, rfl⟩⟩
theorem bsx128 : ∀ c, c < 128 → bsx (nI c) = nI c := by decide +kernel
theorem C_RC_feed {y : Int32} (hT : tRC sh x) (hR : rRC S x w) (hW : wOK w) (h0 : ¬ rg y 128 = true → P (some (.int (-2))) S) (h1 : rg y 128 = true → 100 ≤ wL w → P (some (.int (-4))) S)
    (h2 : ∀ c S', c < 128 → y = nI c → wL w < 100 → frS S (inX x) S' → rRC S' x (wText w (wL w + 1) (gset (wtx w) (wL w) (nI c))) → P (some (.int (nI (wL w + 1)))) S') : zR G m_RC_feed 2 sh [.ref x, .int y] S P := by
  obtain ⟨t0, t1, t2, t3, ⟨t4, t4q⟩, ⟨t5, t5t⟩, t6, t7, t8, t9, t10⟩ := id hT
  obtain ⟨u0, u1, u2, u3, u4, u5⟩ := id t1
  have u1a := u1.1
  obtain ⟨r0, rc, rh, rh2, ⟨rq8, rq0, rq⟩, ⟨rL, rtx⟩, rt⟩ := id hR
  obtain ⟨v0, v1, v2, v3, v4, v5⟩ := id r0
  have z0 : zi S (x + 1 + 1) 1 = nI (aN (wA w)) := v0.1
  obtain ⟨g0, gi, ⟨g2, g2q⟩, ⟨g3, g3x⟩, g4⟩ := id hW
  obtain ⟨⟨b1, b2, b3, b4, b5⟩, ⟨e1, e2, e3, e4, e5⟩, eV, eM, eMo, eS, eB⟩ := id g0
  have hv : ∀ j, j < aN (wA w) → ∀ c, c < 4 → aV (wA w) j c < 16 := fun j hj c hc => (eV j hj c hc).2
  have t3a := t3.1
  refine s_meth 0 ⟨p_RC, rfl, Nat.le_of_ble_eq_true rfl⟩ rfl (fun sz => ?_)
  refine z_iload_n dX9_feed_0 rfl ?_
  refine z_if_lt 10 dX9_feed_1 (by decide) (fun c1 => ?_) (fun c1 => ?_)
  · have hy : ¬ rg y 128 = true := fun q => Int32.not_lt.mpr (of_decide_eq_true q).1 c1
    refine z_bipush (-2) dX9_feed_10 (by decide) ?_
    refine z_ireturn dX9_feed_12 rfl rfl ⟨Nat.le_refl _, Nat.le_refl _⟩ ?_
    exact ⟨rfl, _, rfl, h0 hy⟩
  · refine z_iload_n dX9_feed_4 rfl ?_
    refine z_bipush 127 dX9_feed_5 (by decide) ?_
    refine z_icmp_le 13 dX9_feed_7 (by decide) (fun c7 => ?_) (fun c7 => ?_)
    · obtain ⟨j, hj, rfl⟩ := nI_of c1
      have hj2 := i_le (b := 127) hj (by decide) c7
      have hy : rg (nI j) 128 = true := rg_n (by omega) (by decide)
      refine z_aload_n dX9_feed_13 rfl ?_
      refine s_getr f_RC_28 dX9_feed_14 (by assumption) rfl ?_
      refine s_geti f_RC_143 dX9_feed_17 (by assumption) rfl ?_
      refine z_bipush 100 dX9_feed_20 (by decide) ?_
      refine z_icmp_lt 28 dX9_feed_22 (by decide) (fun c22 => ?_) (fun c22 => ?_)
      · rw [rL] at c22
        have hL := i_lt (b := 100) (by omega) (by decide) c22
        refine z_aload_n dX9_feed_28 rfl ?_
        refine s_getr f_RC_28 dX9_feed_29 (by assumption) rfl ?_
        refine z_iload_n dX9_feed_32 rfl ?_
        refine s_callV0 l_RC_146 (C_Reader_append t3 rL hL) t3a dX9_feed_33 rfl rfl (Nat.le_of_ble_eq_true rfl) ⟨⟨by decide, by decide⟩, by decide, by decide⟩ ?_
        refine z_aload_n dX9_feed_36 rfl ?_
        refine s_getr f_RC_28 dX9_feed_37 (by assumption) rfl ?_
        refine s_geti f_RC_143 dX9_feed_40 (by assumption) rfl ?_
        rw [zi_si]
        refine z_ireturn dX9_feed_43 rfl rfl ⟨Nat.le_refl _, Nat.le_refl _⟩ ?_
        rw [bsx128 j (by omega)]
        have f2 : frS S (fun b => b = x + 187 ∨ b = x + 187 + 1) (zsi (zsa S (x + 187 + 1) (wL w) (nI j)) (x + 187) 1 (nI (wL w + 1))) := (frS.seta (Or.inr rfl)).trans (frS.seti (Or.inl rfl))
        refine ⟨rfl, _, rfl, h2 j _ (by omega) rfl hL (f2.weaken (fun b hb => by unfold inX; omega)) (hR.text f2 (fun b b1 b2 b3 => by omega) ⟨zi_si, fun i hi => ?_⟩)⟩
        by_cases e : i = wL w
        · subst e; rw [gset_s]; exact za_sa
        · rw [gset_n e]; exact (za_san (by omega)).trans (rtx i (by omega))
      · rw [rL] at c22
        have hL := i_nlt (b := 100) (by decide) c22
        refine z_bipush (-4) dX9_feed_25 (by decide) ?_
        refine z_ireturn dX9_feed_27 rfl rfl ⟨Nat.le_refl _, Nat.le_refl _⟩ ?_
        exact ⟨rfl, _, rfl, h1 hy hL⟩
    · have hy : ¬ rg y 128 = true := fun q => by
        obtain ⟨j, hj, rfl⟩ := rg_t (by decide) q
        exact c7 (nI_le (b := 127) (by omega) (by decide))
      refine z_bipush (-2) dX9_feed_10 (by decide) ?_
      refine z_ireturn dX9_feed_12 rfl rfl ⟨Nat.le_refl _, Nat.le_refl _⟩ ?_
      exact ⟨rfl, _, rfl, h0 hy⟩
theorem C_RC_see {a b : Int32} (hT : tRC sh x) (hR : rRC S x w) (hW : wOK w) (hc : ∀ S', a = -1 → frS S (inX x) S' → rRC S' x (wNow w (aSee (wA w) 0) (gset (wg w) 492 0)) → P (some (.int 0)) S')
    (h0 : ¬ a = -1 → ¬ rg a (aN (wA w)) = true → P (some (.int (-1))) S) (h1 : ¬ a = -1 → rg a (aN (wA w)) = true → aS (wA w) = 6 → P (some (.int (-4))) S)
    (h2 : ∀ Y S', ¬ a = -1 → rg a (aN (wA w)) = true → aS (wA w) < 6 → Y = (if b = 0 then 0 else 1) → frS S (inX x) S' → rRC S' x (wNow w (aSee (wA w) (aS (wA w) + 1)) (gTold (wg w) 493 (aS (wA w)) a Y)) → P (some (.int (nI (aS (wA w) + 1)))) S') : zR G m_RC_see 3 sh [.ref x, .int a, .int b] S P := by
  obtain ⟨t0, t1, t2, t3, ⟨t4, t4q⟩, ⟨t5, t5t⟩, t6, t7, t8, t9, t10⟩ := id hT
  obtain ⟨u0, u1, u2, u3, u4, u5⟩ := id t1
  have u1a := u1.1
  obtain ⟨r0, rc, rh, rh2, ⟨rq8, rq0, rq⟩, ⟨rL, rtx⟩, rt⟩ := id hR
  obtain ⟨v0, v1, v2, v3, v4, v5⟩ := id r0
  have z0 : zi S (x + 1 + 1) 1 = nI (aN (wA w)) := v0.1
  obtain ⟨g0, gi, ⟨g2, g2q⟩, ⟨g3, g3x⟩, g4⟩ := id hW
  obtain ⟨⟨b1, b2, b3, b4, b5⟩, ⟨e1, e2, e3, e4, e5⟩, eV, eM, eMo, eS, eB⟩ := id g0
  have hv : ∀ j, j < aN (wA w) → ∀ c, c < 4 → aV (wA w) j c < 16 := fun j hj c hc => (eV j hj c hc).2
  have u3a := u3.1
  refine s_meth 0 ⟨p_RC, rfl, Nat.le_of_ble_eq_true rfl⟩ rfl (fun sz => ?_)
  refine z_iload_n dX9_see_0 rfl ?_
  refine z_iconst (-1) dX9_see_1 rfl ?_
  refine z_icmp_ne 18 dX9_see_2 (by decide) (fun c2 => ?_) (fun c2 => ?_)
  · refine z_aload_n dX9_see_18 rfl ?_
    refine s_getr f_RC_14 dX9_see_19 (by assumption) rfl ?_
    refine s_getr f_RC_85 dX9_see_22 (by assumption) rfl ?_
    refine z_iload_n dX9_see_25 rfl ?_
    refine s_callV1 l_RC_99 (C_Rows_hasRow u1 z0 (by omega)) u1a dX9_see_26 rfl rfl (Nat.le_of_ble_eq_true rfl) ⟨⟨by decide, by decide⟩, by decide, by decide⟩ ?_
    refine z_if_ne 34 dX9_see_29 (by decide) (fun c29 => ?_) (fun c29 => ?_)
    · refine z_aload_n dX9_see_34 rfl ?_
      refine s_getr f_RC_14 dX9_see_35 (by assumption) rfl ?_
      refine s_getr f_RC_212 dX9_see_38 (by assumption) rfl ?_
      refine z_iload_n dX9_see_41 rfl ?_
      refine z_iload_n dX9_see_42 rfl ?_
      refine z_if_eq 50 dX9_see_43 (by decide) (fun c43 => ?_) (fun c43 => ?_)
      · have hY : (0 : Int32) = (if b = 0 then 0 else 1) := (if_pos c43).symm
        refine z_iconst 0 dX9_see_50 rfl ?_
        refine s_callV l_RC_219 (C_Pairs_appendR u3 v3.1 v3.2.1 (by decide) b3) u3a dX9_see_51 rfl rfl (Nat.le_of_ble_eq_true rfl) ⟨⟨by decide, by decide⟩, by decide, by decide⟩ (fun r51 S51 q51 => ?_)
        rcases q51 with ⟨h, rfl, rfl⟩ | ⟨h, rfl, rfl⟩
        · refine z_ireturn dX9_see_54 rfl rfl ⟨Nat.le_refl _, Nat.le_refl _⟩ ?_
          exact ⟨rfl, _, rfl, h1 c2 (zo_ne0.mp c29) h⟩
        · refine z_ireturn dX9_see_54 rfl rfl ⟨Nat.le_refl _, Nat.le_refl _⟩ ?_
          refine ⟨rfl, _, rfl, h2 _ _ c2 (zo_ne0.mp c29) h hY ((frApp (P := inX x) ⟨by omega, by omega⟩ ⟨by omega, by omega⟩ ⟨by omega, by omega⟩)) ?_⟩
          exact hR.fr0 (frApp (P := fun b => x + 1 + 84 ≤ b ∧ b < x + 1 + 87) (by omega) (by omega) (by omega)) (fun b b1 b2 b3 => by omega) (r0.told (frApp (P := fun b => x + 1 + 84 ≤ b ∧ b < x + 1 + 87) (by omega) (by omega) (by omega)) (fun b hb => by omega) ⟨rfl, rfl, rfl, rfl⟩ (v3.app (fun k k1 k2 => gTold_o (by omega) (by omega) (by omega)) (gTold_x (by decide)) (gTold_y (by decide))) ((v4.fr (frApp (P := fun b => x + 1 + 84 ≤ b ∧ b < x + 1 + 87) (by omega) (by omega) (by omega)) (by omega)).ga (fun k k1 k2 => gTold_o (by omega) (by omega) (by omega))) ((v5.fr (frApp (P := fun b => x + 1 + 84 ≤ b ∧ b < x + 1 + 87) (by omega) (by omega) (by omega)) (by omega)).ga (fun k k1 k2 => gTold_o (by omega) (by omega) (by omega))))
      · have hY : (1 : Int32) = (if b = 0 then 0 else 1) := (if_neg c43).symm
        refine z_iconst 1 dX9_see_46 rfl ?_
        refine z_goto 51 dX9_see_47 (by decide) ?_
        refine s_callV l_RC_219 (C_Pairs_appendR u3 v3.1 v3.2.1 (by decide) b3) u3a dX9_see_51 rfl rfl (Nat.le_of_ble_eq_true rfl) ⟨⟨by decide, by decide⟩, by decide, by decide⟩ (fun r51 S51 q51 => ?_)
        rcases q51 with ⟨h, rfl, rfl⟩ | ⟨h, rfl, rfl⟩
        · refine z_ireturn dX9_see_54 rfl rfl ⟨Nat.le_refl _, Nat.le_refl _⟩ ?_
          exact ⟨rfl, _, rfl, h1 c2 (zo_ne0.mp c29) h⟩
        · refine z_ireturn dX9_see_54 rfl rfl ⟨Nat.le_refl _, Nat.le_refl _⟩ ?_
          refine ⟨rfl, _, rfl, h2 _ _ c2 (zo_ne0.mp c29) h hY ((frApp (P := inX x) ⟨by omega, by omega⟩ ⟨by omega, by omega⟩ ⟨by omega, by omega⟩)) ?_⟩
          exact hR.fr0 (frApp (P := fun b => x + 1 + 84 ≤ b ∧ b < x + 1 + 87) (by omega) (by omega) (by omega)) (fun b b1 b2 b3 => by omega) (r0.told (frApp (P := fun b => x + 1 + 84 ≤ b ∧ b < x + 1 + 87) (by omega) (by omega) (by omega)) (fun b hb => by omega) ⟨rfl, rfl, rfl, rfl⟩ (v3.app (fun k k1 k2 => gTold_o (by omega) (by omega) (by omega)) (gTold_x (by decide)) (gTold_y (by decide))) ((v4.fr (frApp (P := fun b => x + 1 + 84 ≤ b ∧ b < x + 1 + 87) (by omega) (by omega) (by omega)) (by omega)).ga (fun k k1 k2 => gTold_o (by omega) (by omega) (by omega))) ((v5.fr (frApp (P := fun b => x + 1 + 84 ≤ b ∧ b < x + 1 + 87) (by omega) (by omega) (by omega)) (by omega)).ga (fun k k1 k2 => gTold_o (by omega) (by omega) (by omega))))
    · refine z_iconst (-1) dX9_see_32 rfl ?_
      refine z_ireturn dX9_see_33 rfl rfl ⟨Nat.le_refl _, Nat.le_refl _⟩ ?_
      exact ⟨rfl, _, rfl, h0 c2 (fun q => zoT q c29)⟩
  · refine z_aload_n dX9_see_5 rfl ?_
    refine s_getr f_RC_14 dX9_see_6 (by assumption) rfl ?_
    refine s_getr f_RC_212 dX9_see_9 (by assumption) rfl ?_
    refine z_iconst 0 dX9_see_12 rfl ?_
    refine s_puti f_RC_216 dX9_see_13 (by assumption) rfl ⟨rfl, rfl⟩ ?_
    refine z_iconst 0 dX9_see_16 rfl ?_
    refine z_ireturn dX9_see_17 rfl rfl ⟨Nat.le_refl _, Nat.le_refl _⟩ ?_
    have f2 : frS S (fun b => b = x + 1 + 84) (zsi S (x + 1 + 84) 3 0) := frS.seti rfl
    refine ⟨rfl, _, rfl, hc _ c2 (f2.weaken (fun b hb => by unfold inX; omega)) (hR.fr0 f2 (fun b b1 b2 b3 => by omega) (r0.told f2 (fun b hb => by omega) ⟨rfl, rfl, rfl, rfl⟩ (v3.clr (ga' := gset (wg w) 492 0)) ((v4.fr f2 (by omega)).ga (fun k k1 k2 => gset_n (by omega))) ((v5.fr f2 (by omega)).ga (fun k k1 k2 => gset_n (by omega)))))⟩
def vPlan (w : Wd) (a b : Int32) : Prop := rg a 3 = true ∧ (a = 1 → rg b (aN (wA w)) = true) ∧ (a = 2 → rg b (aM (wA w)) = true)
theorem C_RC_plan {a b : Int32} (hT : tRC sh x) (hR : rRC S x w) (hW : wOK w) (hc : ∀ S', a = -1 → frS S (inX x) S' → rRC S' x (wNow w (aPlan (wA w) 0) (gset (wg w) 505 0)) → P (some (.int 0)) S')
    (h0 : ¬ a = -1 → ¬ vPlan w a b → P (some (.int (-1))) S) (h1 : ¬ a = -1 → vPlan w a b → aP (wA w) = 10 → P (some (.int (-4))) S)
    (h2 : ∀ S', ¬ a = -1 → vPlan w a b → aP (wA w) < 10 → frS S (inX x) S' → rRC S' x (wNow w (aPlan (wA w) (aP (wA w) + 1)) (gTold (wg w) 506 (aP (wA w)) a b)) → P (some (.int (nI (aP (wA w) + 1)))) S') : zR G m_RC_plan 3 sh [.ref x, .int a, .int b] S P := by
  obtain ⟨t0, t1, t2, t3, ⟨t4, t4q⟩, ⟨t5, t5t⟩, t6, t7, t8, t9, t10⟩ := id hT
  obtain ⟨u0, u1, u2, u3, u4, u5⟩ := id t1
  have u1a := u1.1
  obtain ⟨r0, rc, rh, rh2, ⟨rq8, rq0, rq⟩, ⟨rL, rtx⟩, rt⟩ := id hR
  obtain ⟨v0, v1, v2, v3, v4, v5⟩ := id r0
  have z0 : zi S (x + 1 + 1) 1 = nI (aN (wA w)) := v0.1
  obtain ⟨g0, gi, ⟨g2, g2q⟩, ⟨g3, g3x⟩, g4⟩ := id hW
  obtain ⟨⟨b1, b2, b3, b4, b5⟩, ⟨e1, e2, e3, e4, e5⟩, eV, eM, eMo, eS, eB⟩ := id g0
  have hv : ∀ j, j < aN (wA w) → ∀ c, c < 4 → aV (wA w) j c < 16 := fun j hj c hc => (eV j hj c hc).2
  have u4a := u4.1
  have hg3 : ¬ a < 0 → a ≤ 2 → rg a 3 = true := fun h1 h2 => by
    obtain ⟨j, hj, rfl⟩ := nI_of h1
    exact rg_n (by have := i_le (b := 2) hj (by decide) h2; omega) (by decide)
  refine s_meth 0 ⟨p_RC, rfl, Nat.le_of_ble_eq_true rfl⟩ rfl (fun sz => ?_)
  have fin : ¬ a = -1 → vPlan w a b → zW G m_RC_plan (zRm 3 0 0) (zFm G (zP sh sz P) 0 0) 0 0 68 [some (.ref x), some (.int a), some (.int b)] [] (zhp sh S) sz := by
    intro ha hv
    refine z_aload_n dX9_plan_68 rfl ?_
    refine s_getr f_RC_14 dX9_plan_69 (by assumption) rfl ?_
    refine s_getr f_RC_240 dX9_plan_72 (by assumption) rfl ?_
    refine z_iload_n dX9_plan_75 rfl ?_
    refine z_iload_n dX9_plan_76 rfl ?_
    refine s_callV l_RC_219 (C_Pairs_appendR u4 v4.1 v4.2.1 (by decide) b4) u4a dX9_plan_77 rfl rfl (Nat.le_of_ble_eq_true rfl) ⟨⟨by decide, by decide⟩, by decide, by decide⟩ (fun r77 S77 q77 => ?_)
    rcases q77 with ⟨h, rfl, rfl⟩ | ⟨h, rfl, rfl⟩
    · refine z_ireturn dX9_plan_80 rfl rfl ⟨Nat.le_refl _, Nat.le_refl _⟩ ?_
      exact ⟨rfl, _, rfl, h1 ha hv h⟩
    · refine z_ireturn dX9_plan_80 rfl rfl ⟨Nat.le_refl _, Nat.le_refl _⟩ ?_
      refine ⟨rfl, _, rfl, h2 _ ha hv h ((frApp (P := inX x) ⟨by omega, by omega⟩ ⟨by omega, by omega⟩ ⟨by omega, by omega⟩)) ?_⟩
      exact hR.fr0 (frApp (P := fun b => x + 1 + 87 ≤ b ∧ b < x + 1 + 90) (by omega) (by omega) (by omega)) (fun b b1 b2 b3 => by omega) (r0.told (frApp (P := fun b => x + 1 + 87 ≤ b ∧ b < x + 1 + 90) (by omega) (by omega) (by omega)) (fun b hb => by omega) ⟨rfl, rfl, rfl, rfl⟩ ((v3.fr (frApp (P := fun b => x + 1 + 87 ≤ b ∧ b < x + 1 + 90) (by omega) (by omega) (by omega)) (by omega)).ga (fun k k1 k2 => gTold_o (by omega) (by omega) (by omega))) (v4.app (fun k k1 k2 => gTold_o (by omega) (by omega) (by omega)) (gTold_x (by decide)) (gTold_y (by decide))) ((v5.fr (frApp (P := fun b => x + 1 + 87 ≤ b ∧ b < x + 1 + 90) (by omega) (by omega) (by omega)) (by omega)).ga (fun k k1 k2 => gTold_o (by omega) (by omega) (by omega))))
  refine z_iload_n dX9_plan_0 rfl ?_
  refine z_iconst (-1) dX9_plan_1 rfl ?_
  refine z_icmp_ne 18 dX9_plan_2 (by decide) (fun c2 => ?_) (fun c2 => ?_)
  · refine z_iload_n dX9_plan_18 rfl ?_
    refine z_if_lt 27 dX9_plan_19 (by decide) (fun c19 => ?_) (fun c19 => ?_)
    · refine z_iconst (-1) dX9_plan_27 rfl ?_
      refine z_ireturn dX9_plan_28 rfl rfl ⟨Nat.le_refl _, Nat.le_refl _⟩ ?_
      first
        | exact ⟨rfl, _, rfl, h0 c2 (fun q => Int32.not_lt.mpr (of_decide_eq_true q.1).1 c19)⟩
        | exact ⟨rfl, _, rfl, h0 c2 (fun q => by
            obtain ⟨j, hj, rfl⟩ := rg_t (by decide) q.1
            exact c24 (nI_le (b := 2) (by omega) (by decide)))⟩
        | skip
    · refine z_iload_n dX9_plan_22 rfl ?_
      refine z_iconst 2 dX9_plan_23 rfl ?_
      refine z_icmp_le 29 dX9_plan_24 (by decide) (fun c24 => ?_) (fun c24 => ?_)
      · refine z_iload_n dX9_plan_29 rfl ?_
        refine z_iconst 1 dX9_plan_30 rfl ?_
        refine z_icmp_ne 50 dX9_plan_31 (by decide) (fun c31 => ?_) (fun c31 => ?_)
        · refine z_iload_n dX9_plan_50 rfl ?_
          refine z_iconst 2 dX9_plan_51 rfl ?_
          refine z_icmp_ne 68 dX9_plan_52 (by decide) (fun c52 => ?_) (fun c52 => ?_)
          · first
              | exact fin c2 ⟨hg3 c19 c24, fun _ => zo_ne0.mp c45, fun _ => zo_ne0.mp c63⟩
              | exact fin c2 ⟨hg3 c19 c24, fun _ => zo_ne0.mp c45, fun q => absurd q c52⟩
              | exact fin c2 ⟨hg3 c19 c24, fun q => absurd q c31, fun _ => zo_ne0.mp c63⟩
              | exact fin c2 ⟨hg3 c19 c24, fun q => absurd q c31, fun q => absurd q c52⟩
              | skip
          · refine z_aload_n dX9_plan_55 rfl ?_
            refine s_getr f_RC_14 dX9_plan_56 (by assumption) rfl ?_
            refine z_iload_n dX9_plan_59 rfl ?_
            refine s_callV1 l_RC_116 (C_State_hasMark t1 v1) u0 dX9_plan_60 rfl rfl (Nat.le_of_ble_eq_true rfl) ⟨⟨by decide, by decide⟩, by decide, by decide⟩ ?_
            refine z_if_ne 68 dX9_plan_63 (by decide) (fun c63 => ?_) (fun c63 => ?_)
            · first
                | exact fin c2 ⟨hg3 c19 c24, fun _ => zo_ne0.mp c45, fun _ => zo_ne0.mp c63⟩
                | exact fin c2 ⟨hg3 c19 c24, fun _ => zo_ne0.mp c45, fun q => absurd q c52⟩
                | exact fin c2 ⟨hg3 c19 c24, fun q => absurd q c31, fun _ => zo_ne0.mp c63⟩
                | exact fin c2 ⟨hg3 c19 c24, fun q => absurd q c31, fun q => absurd q c52⟩
                | skip
            · refine z_iconst (-1) dX9_plan_66 rfl ?_
              refine z_ireturn dX9_plan_67 rfl rfl ⟨Nat.le_refl _, Nat.le_refl _⟩ ?_
              exact ⟨rfl, _, rfl, h0 c2 (fun q => zoT (q.2.2 c52) c63)⟩
        · refine z_aload_n dX9_plan_34 rfl ?_
          refine s_getr f_RC_14 dX9_plan_35 (by assumption) rfl ?_
          refine s_getr f_RC_85 dX9_plan_38 (by assumption) rfl ?_
          refine z_iload_n dX9_plan_41 rfl ?_
          refine s_callV1 l_RC_99 (C_Rows_hasRow u1 z0 (by omega)) u1a dX9_plan_42 rfl rfl (Nat.le_of_ble_eq_true rfl) ⟨⟨by decide, by decide⟩, by decide, by decide⟩ ?_
          refine z_if_ne 50 dX9_plan_45 (by decide) (fun c45 => ?_) (fun c45 => ?_)
          · refine z_iload_n dX9_plan_50 rfl ?_
            refine z_iconst 2 dX9_plan_51 rfl ?_
            refine z_icmp_ne 68 dX9_plan_52 (by decide) (fun c52 => ?_) (fun c52 => ?_)
            · first
                | exact fin c2 ⟨hg3 c19 c24, fun _ => zo_ne0.mp c45, fun _ => zo_ne0.mp c63⟩
                | exact fin c2 ⟨hg3 c19 c24, fun _ => zo_ne0.mp c45, fun q => absurd q c52⟩
                | exact fin c2 ⟨hg3 c19 c24, fun q => absurd q c31, fun _ => zo_ne0.mp c63⟩
                | exact fin c2 ⟨hg3 c19 c24, fun q => absurd q c31, fun q => absurd q c52⟩
                | skip
            · refine z_aload_n dX9_plan_55 rfl ?_
              refine s_getr f_RC_14 dX9_plan_56 (by assumption) rfl ?_
              refine z_iload_n dX9_plan_59 rfl ?_
              refine s_callV1 l_RC_116 (C_State_hasMark t1 v1) u0 dX9_plan_60 rfl rfl (Nat.le_of_ble_eq_true rfl) ⟨⟨by decide, by decide⟩, by decide, by decide⟩ ?_
              refine z_if_ne 68 dX9_plan_63 (by decide) (fun c63 => ?_) (fun c63 => ?_)
              · first
                  | exact fin c2 ⟨hg3 c19 c24, fun _ => zo_ne0.mp c45, fun _ => zo_ne0.mp c63⟩
                  | exact fin c2 ⟨hg3 c19 c24, fun _ => zo_ne0.mp c45, fun q => absurd q c52⟩
                  | exact fin c2 ⟨hg3 c19 c24, fun q => absurd q c31, fun _ => zo_ne0.mp c63⟩
                  | exact fin c2 ⟨hg3 c19 c24, fun q => absurd q c31, fun q => absurd q c52⟩
                  | skip
              · refine z_iconst (-1) dX9_plan_66 rfl ?_
                refine z_ireturn dX9_plan_67 rfl rfl ⟨Nat.le_refl _, Nat.le_refl _⟩ ?_
                exact ⟨rfl, _, rfl, h0 c2 (fun q => zoT (q.2.2 c52) c63)⟩
          · refine z_iconst (-1) dX9_plan_48 rfl ?_
            refine z_ireturn dX9_plan_49 rfl rfl ⟨Nat.le_refl _, Nat.le_refl _⟩ ?_
            exact ⟨rfl, _, rfl, h0 c2 (fun q => zoT (q.2.1 c31) c45)⟩
      · refine z_iconst (-1) dX9_plan_27 rfl ?_
        refine z_ireturn dX9_plan_28 rfl rfl ⟨Nat.le_refl _, Nat.le_refl _⟩ ?_
        first
          | exact ⟨rfl, _, rfl, h0 c2 (fun q => Int32.not_lt.mpr (of_decide_eq_true q.1).1 c19)⟩
          | exact ⟨rfl, _, rfl, h0 c2 (fun q => by
              obtain ⟨j, hj, rfl⟩ := rg_t (by decide) q.1
              exact c24 (nI_le (b := 2) (by omega) (by decide)))⟩
          | skip
  · refine z_aload_n dX9_plan_5 rfl ?_
    refine s_getr f_RC_14 dX9_plan_6 (by assumption) rfl ?_
    refine s_getr f_RC_240 dX9_plan_9 (by assumption) rfl ?_
    refine z_iconst 0 dX9_plan_12 rfl ?_
    refine s_puti f_RC_216 dX9_plan_13 (by assumption) rfl ⟨rfl, rfl⟩ ?_
    refine z_iconst 0 dX9_plan_16 rfl ?_
    refine z_ireturn dX9_plan_17 rfl rfl ⟨Nat.le_refl _, Nat.le_refl _⟩ ?_
    have f2 : frS S (fun b => b = x + 1 + 87) (zsi S (x + 1 + 87) 3 0) := frS.seti rfl
    refine ⟨rfl, _, rfl, hc _ c2 (f2.weaken (fun b hb => by unfold inX; omega)) (hR.fr0 f2 (fun b b1 b2 b3 => by omega) (r0.told f2 (fun b hb => by omega) ⟨rfl, rfl, rfl, rfl⟩ ((v3.fr f2 (by omega)).ga (fun k k1 k2 => gset_n (by omega))) (v4.clr (ga' := gset (wg w) 505 0)) ((v5.fr f2 (by omega)).ga (fun k k1 k2 => gset_n (by omega)))))⟩
theorem C_RC_book {a b : Int32} (hT : tRC sh x) (hR : rRC S x w) (hW : wOK w) (hc : ∀ S', a = -1 → frS S (inX x) S' → rRC S' x (wNow w (aBook (wA w) 0) (gset (wg w) 526 0)) → P (some (.int 0)) S')
    (h0 : ¬ a = -1 → ¬ rg a (wq w) = true → P (some (.int (-1))) S) (hb : ¬ a = -1 → rg a (wq w) = true → ¬ rg b 121 = true → P (some (.int (-2))) S) (h1 : ¬ a = -1 → rg a (wq w) = true → rg b 121 = true → aB (wA w) = 8 → P (some (.int (-4))) S)
    (h2 : ∀ S', ¬ a = -1 → rg a (wq w) = true → rg b 121 = true → aB (wA w) < 8 → frS S (inX x) S' → rRC S' x (wNow w (aBook (wA w) (aB (wA w) + 1)) (gTold (wg w) 527 (aB (wA w)) a b)) → P (some (.int (nI (aB (wA w) + 1)))) S') : zR G m_RC_book 3 sh [.ref x, .int a, .int b] S P := by
  obtain ⟨t0, t1, t2, t3, ⟨t4, t4q⟩, ⟨t5, t5t⟩, t6, t7, t8, t9, t10⟩ := id hT
  obtain ⟨u0, u1, u2, u3, u4, u5⟩ := id t1
  have u1a := u1.1
  obtain ⟨r0, rc, rh, rh2, ⟨rq8, rq0, rq⟩, ⟨rL, rtx⟩, rt⟩ := id hR
  obtain ⟨v0, v1, v2, v3, v4, v5⟩ := id r0
  have z0 : zi S (x + 1 + 1) 1 = nI (aN (wA w)) := v0.1
  obtain ⟨g0, gi, ⟨g2, g2q⟩, ⟨g3, g3x⟩, g4⟩ := id hW
  obtain ⟨⟨b1, b2, b3, b4, b5⟩, ⟨e1, e2, e3, e4, e5⟩, eV, eM, eMo, eS, eB⟩ := id g0
  have hv : ∀ j, j < aN (wA w) → ∀ c, c < 4 → aV (wA w) j c < 16 := fun j hj c hc => (eV j hj c hc).2
  have u5a := u5.1
  refine s_meth 0 ⟨p_RC, rfl, Nat.le_of_ble_eq_true rfl⟩ rfl (fun sz => ?_)
  refine z_iload_n dX9_book_0 rfl ?_
  refine z_iconst (-1) dX9_book_1 rfl ?_
  refine z_icmp_ne 18 dX9_book_2 (by decide) (fun c2 => ?_) (fun c2 => ?_)
  · refine z_aload_n dX9_book_18 rfl ?_
    refine z_iload_n dX9_book_19 rfl ?_
    refine s_callV1 l_RC_152 (C_RC_isQuery hT hR) t0 dX9_book_20 rfl rfl (Nat.le_of_ble_eq_true rfl) ⟨⟨by decide, by decide⟩, by decide, by decide⟩ ?_
    refine z_if_ne 28 dX9_book_23 (by decide) (fun c23 => ?_) (fun c23 => ?_)
    · refine z_iload_n dX9_book_28 rfl ?_
      refine z_if_lt 38 dX9_book_29 (by decide) (fun c29 => ?_) (fun c29 => ?_)
      · refine z_bipush (-2) dX9_book_38 (by decide) ?_
        refine z_ireturn dX9_book_40 rfl rfl ⟨Nat.le_refl _, Nat.le_refl _⟩ ?_
        first
          | exact ⟨rfl, _, rfl, hb c2 (zo_ne0.mp c23) (fun q => Int32.not_lt.mpr (of_decide_eq_true q).1 c29)⟩
          | exact ⟨rfl, _, rfl, hb c2 (zo_ne0.mp c23) (fun q => by
              obtain ⟨j, hj, rfl⟩ := rg_t (by decide) q
              exact c35 (nI_le (b := 120) (by omega) (by decide)))⟩
          | skip
      · refine z_iload_n dX9_book_32 rfl ?_
        refine z_bipush 120 dX9_book_33 (by decide) ?_
        refine z_icmp_le 41 dX9_book_35 (by decide) (fun c35 => ?_) (fun c35 => ?_)
        · have hb3 : rg b 121 = true := by
            obtain ⟨j, hj, rfl⟩ := nI_of c29
            exact rg_n (by have := i_le (b := 120) hj (by decide) c35; omega) (by decide)
          refine z_aload_n dX9_book_41 rfl ?_
          refine s_getr f_RC_14 dX9_book_42 (by assumption) rfl ?_
          refine s_getr f_RC_247 dX9_book_45 (by assumption) rfl ?_
          refine z_iload_n dX9_book_48 rfl ?_
          refine z_iload_n dX9_book_49 rfl ?_
          refine s_callV l_RC_219 (C_Pairs_appendR u5 v5.1 v5.2.1 (by decide) b5) u5a dX9_book_50 rfl rfl (Nat.le_of_ble_eq_true rfl) ⟨⟨by decide, by decide⟩, by decide, by decide⟩ (fun r50 S50 q50 => ?_)
          rcases q50 with ⟨h, rfl, rfl⟩ | ⟨h, rfl, rfl⟩
          · refine z_ireturn dX9_book_53 rfl rfl ⟨Nat.le_refl _, Nat.le_refl _⟩ ?_
            exact ⟨rfl, _, rfl, h1 c2 (zo_ne0.mp c23) hb3 h⟩
          · refine z_ireturn dX9_book_53 rfl rfl ⟨Nat.le_refl _, Nat.le_refl _⟩ ?_
            refine ⟨rfl, _, rfl, h2 _ c2 (zo_ne0.mp c23) hb3 h ((frApp (P := inX x) ⟨by omega, by omega⟩ ⟨by omega, by omega⟩ ⟨by omega, by omega⟩)) ?_⟩
            exact hR.fr0 (frApp (P := fun b => x + 1 + 90 ≤ b ∧ b < x + 1 + 93) (by omega) (by omega) (by omega)) (fun b b1 b2 b3 => by omega) (r0.told (frApp (P := fun b => x + 1 + 90 ≤ b ∧ b < x + 1 + 93) (by omega) (by omega) (by omega)) (fun b hb => by omega) ⟨rfl, rfl, rfl, rfl⟩ ((v3.fr (frApp (P := fun b => x + 1 + 90 ≤ b ∧ b < x + 1 + 93) (by omega) (by omega) (by omega)) (by omega)).ga (fun k k1 k2 => gTold_o (by omega) (by omega) (by omega))) ((v4.fr (frApp (P := fun b => x + 1 + 90 ≤ b ∧ b < x + 1 + 93) (by omega) (by omega) (by omega)) (by omega)).ga (fun k k1 k2 => gTold_o (by omega) (by omega) (by omega))) (v5.app (fun k k1 k2 => gTold_o (by omega) (by omega) (by omega)) (gTold_x (by decide)) (gTold_y (by decide))))
        · refine z_bipush (-2) dX9_book_38 (by decide) ?_
          refine z_ireturn dX9_book_40 rfl rfl ⟨Nat.le_refl _, Nat.le_refl _⟩ ?_
          first
            | exact ⟨rfl, _, rfl, hb c2 (zo_ne0.mp c23) (fun q => Int32.not_lt.mpr (of_decide_eq_true q).1 c29)⟩
            | exact ⟨rfl, _, rfl, hb c2 (zo_ne0.mp c23) (fun q => by
                obtain ⟨j, hj, rfl⟩ := rg_t (by decide) q
                exact c35 (nI_le (b := 120) (by omega) (by decide)))⟩
            | skip
    · refine z_iconst (-1) dX9_book_26 rfl ?_
      refine z_ireturn dX9_book_27 rfl rfl ⟨Nat.le_refl _, Nat.le_refl _⟩ ?_
      exact ⟨rfl, _, rfl, h0 c2 (fun q => zoT q c23)⟩
  · refine z_aload_n dX9_book_5 rfl ?_
    refine s_getr f_RC_14 dX9_book_6 (by assumption) rfl ?_
    refine s_getr f_RC_247 dX9_book_9 (by assumption) rfl ?_
    refine z_iconst 0 dX9_book_12 rfl ?_
    refine s_puti f_RC_216 dX9_book_13 (by assumption) rfl ⟨rfl, rfl⟩ ?_
    refine z_iconst 0 dX9_book_16 rfl ?_
    refine z_ireturn dX9_book_17 rfl rfl ⟨Nat.le_refl _, Nat.le_refl _⟩ ?_
    have f2 : frS S (fun b => b = x + 1 + 90) (zsi S (x + 1 + 90) 3 0) := frS.seti rfl
    refine ⟨rfl, _, rfl, hc _ c2 (f2.weaken (fun b hb => by unfold inX; omega)) (hR.fr0 f2 (fun b b1 b2 b3 => by omega) (r0.told f2 (fun b hb => by omega) ⟨rfl, rfl, rfl, rfl⟩ ((v3.fr f2 (by omega)).ga (fun k k1 k2 => gset_n (by omega))) ((v4.fr f2 (by omega)).ga (fun k k1 k2 => gset_n (by omega))) (v5.clr (ga' := gset (wg w) 526 0))))⟩
abbrev wImg (w : Wd) : Wd := (w.1, (true, wA w, wg w), w.2.2)
theorem C_RC_image (hT : tRC sh x) (hR : rRC S x w) (hW : wOK w) (h1 : ∀ S', frS S (inX x) S' → rRC S' x (wImg w) → P (some (.int (nI (aN (wA w))))) S') : zR G m_RC_image 4 sh [.ref x] S P := by
  obtain ⟨t0, t1, t2, t3, ⟨t4, t4q⟩, ⟨t5, t5t⟩, t6, t7, t8, t9, t10⟩ := id hT
  obtain ⟨u0, u1, u2, u3, u4, u5⟩ := id t1
  have u1a := u1.1
  obtain ⟨r0, rc, rh, rh2, ⟨rq8, rq0, rq⟩, ⟨rL, rtx⟩, rt⟩ := id hR
  obtain ⟨v0, v1, v2, v3, v4, v5⟩ := id r0
  have z0 : zi S (x + 1 + 1) 1 = nI (aN (wA w)) := v0.1
  obtain ⟨g0, gi, ⟨g2, g2q⟩, ⟨g3, g3x⟩, g4⟩ := id hW
  obtain ⟨⟨b1, b2, b3, b4, b5⟩, ⟨e1, e2, e3, e4, e5⟩, eV, eM, eMo, eS, eB⟩ := id g0
  have hv : ∀ j, j < aN (wA w) → ∀ c, c < 4 → aV (wA w) j c < 16 := fun j hj c hc => (eV j hj c hc).2
  have t2a := t2.1
  refine s_meth 0 ⟨p_RC, rfl, Nat.le_of_ble_eq_true rfl⟩ rfl (fun sz => ?_)
  refine z_aload_n dX9_image_0 rfl ?_
  refine s_getr f_RC_18 dX9_image_1 (by assumption) rfl ?_
  refine z_aload_n dX9_image_4 rfl ?_
  refine s_getr f_RC_14 dX9_image_5 (by assumption) rfl ?_
  refine n_callV0 l_RC_270 (C_State_become t2 t1 (by omega) rc r0 ⟨b2, b3, b4, b5⟩) t2a dX9_image_8 rfl rfl (Nat.le_of_ble_eq_true rfl) ⟨⟨by decide, by decide⟩, by decide, by decide⟩ (fun S8 q8 => ?_)
  refine z_aload_n dX9_image_11 rfl ?_
  refine z_iconst 1 dX9_image_12 rfl ?_
  refine s_puti f_RC_21 dX9_image_13 (by assumption) rfl ⟨rfl, rfl⟩ ?_
  refine z_aload_n dX9_image_16 rfl ?_
  refine s_getr f_RC_14 dX9_image_17 (by assumption) rfl ?_
  refine s_getr f_RC_85 dX9_image_20 (by assumption) rfl ?_
  refine s_geti f_RC_96 dX9_image_23 (by assumption) rfl ?_
  rw [show zi (zsi S8 x 2 1) (x + 1 + 1) 1 = nI (aN (wA w)) from (zi_sin (by omega)).trans ((congrFun (q8.1 _ (by unfold inState; omega)).1 1).trans z0)]
  refine z_ireturn dX9_image_26 rfl rfl ⟨Nat.le_refl _, Nat.le_refl _⟩ ?_
  have f2 : frS S (fun b => b = x ∨ inState (x + 94) b) (zsi S8 x 2 1) := (q8.1.weaken (fun b hb => Or.inr hb)).trans (frS.seti (Or.inl rfl))
  have f3 : frS S8 (fun b => b = x) (zsi S8 x 2 1) := frS.seti rfl
  have o : ∀ b, x < b → b < x + 94 ∨ x + 187 ≤ b → ¬ (b = x ∨ inState (x + 94) b) := fun b h1 h2 => by unfold inState; omega
  have rs := q8.2.fr f3 (fun b b1 b2 => by omega)
  refine ⟨rfl, _, rfl, h1 _ (f2.weaken (fun b hb => by unfold inState at hb; unfold inX; omega)) ⟨r0.fr f2 (fun b b1 b2 => o b (by omega) (by omega)), ⟨rs.2.2.2.1.1, rs.2.2.2.2.1.1, rs.2.2.2.2.2.1⟩, zi_si, fun _ => rs, ⟨rq8, (zi_sik (by decide)).trans ((congrFun (q8.1 _ (by unfold inState; omega)).1 5).trans rq0), fun k hk => ?_⟩, ⟨(congrFun (f2 _ (o _ (by omega) (by omega))).1 1).trans rL, fun i hi => (congrFun (f2 _ (o _ (by omega) (by omega))).2.2.1 i).trans (rtx i hi)⟩, fun t ht => ⟨(congrFun (f2 _ (o _ (by omega) (by omega))).1 1).trans (rt t ht).1, (congrFun (f2 _ (o _ (by omega) (by omega))).1 2).trans (rt t ht).2.1, fun i hi => (congrFun (f2 _ (o _ (by omega) (by omega))).2.2.2 i).trans ((rt t ht).2.2 i hi)⟩⟩⟩
  exact (rq k hk).fr f2 (fun b b1 b2 => o b (by omega) (by omega))
theorem C_RC_undo (hT : tRC sh x) (hR : rRC S x w) (hW : wOK w) (h0 : wH w = false → P (some (.int (-3))) S) (h1 : ∀ S', wH w = true → frS S (inX x) S' → rRC S' x (wNow w (wA2 w) (wg2 w)) → P (some (.int (nI (aN (wA2 w))))) S') : zR G m_RC_undo 4 sh [.ref x] S P := by
  obtain ⟨t0, t1, t2, t3, ⟨t4, t4q⟩, ⟨t5, t5t⟩, t6, t7, t8, t9, t10⟩ := id hT
  obtain ⟨u0, u1, u2, u3, u4, u5⟩ := id t1
  have u1a := u1.1
  obtain ⟨r0, rc, rh, rh2, ⟨rq8, rq0, rq⟩, ⟨rL, rtx⟩, rt⟩ := id hR
  obtain ⟨v0, v1, v2, v3, v4, v5⟩ := id r0
  have z0 : zi S (x + 1 + 1) 1 = nI (aN (wA w)) := v0.1
  obtain ⟨g0, gi, ⟨g2, g2q⟩, ⟨g3, g3x⟩, g4⟩ := id hW
  obtain ⟨⟨b1, b2, b3, b4, b5⟩, ⟨e1, e2, e3, e4, e5⟩, eV, eM, eMo, eS, eB⟩ := id g0
  have hv : ∀ j, j < aN (wA w) → ∀ c, c < 4 → aV (wA w) j c < 16 := fun j hj c hc => (eV j hj c hc).2
  refine s_meth 0 ⟨p_RC, rfl, Nat.le_of_ble_eq_true rfl⟩ rfl (fun sz => ?_)
  refine z_aload_n dX9_undo_0 rfl ?_
  refine s_geti f_RC_21 dX9_undo_1 (by assumption) rfl ?_
  refine z_if_ne 10 dX9_undo_4 (by decide) (fun c4 => ?_) (fun c4 => ?_)
  · rw [rh] at c4
    have hh := zo_ne0.mp c4
    have hb2 := (gi hh).1
    refine z_aload_n dX9_undo_10 rfl ?_
    refine s_getr f_RC_14 dX9_undo_11 (by assumption) rfl ?_
    refine z_aload_n dX9_undo_14 rfl ?_
    refine s_getr f_RC_18 dX9_undo_15 (by assumption) rfl ?_
    refine n_callV0 l_RC_270 (C_State_become t1 t2 (by omega) ⟨v3.1, v4.1, v5.1⟩ (rh2 hh) ⟨hb2.2.1, hb2.2.2.1, hb2.2.2.2.1, hb2.2.2.2.2⟩) u0 dX9_undo_18 rfl rfl (Nat.le_of_ble_eq_true rfl) ⟨⟨by decide, by decide⟩, by decide, by decide⟩ (fun S18 q18 => ?_)
    refine z_aload_n dX9_undo_21 rfl ?_
    refine s_getr f_RC_14 dX9_undo_22 (by assumption) rfl ?_
    refine s_getr f_RC_85 dX9_undo_25 (by assumption) rfl ?_
    refine s_geti f_RC_96 dX9_undo_28 (by assumption) rfl ?_
    rw [show zi S18 (x + 1 + 1) 1 = nI (aN (wA2 w)) from q18.2.1.1]
    refine z_ireturn dX9_undo_31 rfl rfl ⟨Nat.le_refl _, Nat.le_refl _⟩ ?_
    exact ⟨rfl, _, rfl, h1 _ hh (q18.1.weaken (fun b hb => by unfold inState at hb; unfold inX; omega)) (hR.fr0 q18.1 (fun b b1 b2 b3 => by unfold inState; omega) q18.2)⟩
  · rw [rh] at c4
    have hh := zo_eq0.mp c4
    refine z_bipush (-3) dX9_undo_7 (by decide) ?_
    refine z_ireturn dX9_undo_9 rfl rfl ⟨Nat.le_refl _, Nat.le_refl _⟩ ?_
    exact ⟨rfl, _, rfl, h0 hh⟩
/-- what count answers -/
def cntA (w : Wd) : Nat → Nat
  | 0 => aN (wA w)
  | 1 => aM (wA w)
  | 2 => wq w
  | 3 => aS (wA w)
  | 4 => aP (wA w)
  | 5 => aB (wA w)
  | _ => wL w
theorem C_RC_count {a : Int32} (hT : tRC sh x) (hR : rRC S x w) (h0 : ¬ rg a 7 = true → P (some (.int (-2))) S) (h1 : ∀ i, i < 7 → a = nI i → P (some (.int (nI (cntA w i)))) S) : zR G m_RC_count 1 sh [.ref x, .int a] S P := by
  obtain ⟨t0, t1, t2, t3, ⟨t4, t4q⟩, ⟨t5, t5t⟩, t6, t7, t8, t9, t10⟩ := id hT
  obtain ⟨u0, u1, u2, u3, u4, u5⟩ := id t1
  have u1a := u1.1
  obtain ⟨r0, rc, rh, rh2, ⟨rq8, rq0, rq⟩, ⟨rL, rtx⟩, rt⟩ := id hR
  obtain ⟨v0, v1, v2, v3, v4, v5⟩ := id r0
  have z0 : zi S (x + 1 + 1) 1 = nI (aN (wA w)) := v0.1
  have u3a := u3.1
  have u4a := u4.1
  have u5a := u5.1
  have t3a := t3.1
  refine s_meth 0 ⟨p_RC, rfl, Nat.le_of_ble_eq_true rfl⟩ rfl (fun sz => ?_)
  refine z_iload_n dX9_count_0 rfl ?_
  refine z_table 0 [44, 55, 63, 68, 79, 90, 101] 109 dX9_count_1 (by decide) ⟨fun c1 => ?_, fun c1 => ?_, fun c1 => ?_, fun c1 => ?_, fun c1 => ?_, fun c1 => ?_, fun c1 => ?_, trivial⟩ (fun c1 => ?_)
  · refine z_aload_n dX9_count_44 rfl ?_
    refine s_getr f_RC_14 dX9_count_45 (by assumption) rfl ?_
    refine s_getr f_RC_85 dX9_count_48 (by assumption) rfl ?_
    refine s_geti f_RC_96 dX9_count_51 (by assumption) rfl ?_
    refine z_ireturn dX9_count_54 rfl rfl ⟨Nat.le_refl _, Nat.le_refl _⟩ ?_
    rw [z0]
    exact ⟨rfl, _, rfl, h1 0 (by decide) c1⟩
  · refine z_aload_n dX9_count_55 rfl ?_
    refine s_getr f_RC_14 dX9_count_56 (by assumption) rfl ?_
    refine s_geti f_RC_109 dX9_count_59 (by assumption) rfl ?_
    refine z_ireturn dX9_count_62 rfl rfl ⟨Nat.le_refl _, Nat.le_refl _⟩ ?_
    rw [v1]
    exact ⟨rfl, _, rfl, h1 1 (by decide) c1⟩
  · refine z_aload_n dX9_count_63 rfl ?_
    refine s_geti f_RC_38 dX9_count_64 (by assumption) rfl ?_
    refine z_ireturn dX9_count_67 rfl rfl ⟨Nat.le_refl _, Nat.le_refl _⟩ ?_
    rw [rq0]
    exact ⟨rfl, _, rfl, h1 2 (by decide) c1⟩
  · refine z_aload_n dX9_count_68 rfl ?_
    refine s_getr f_RC_14 dX9_count_69 (by assumption) rfl ?_
    refine s_getr f_RC_212 dX9_count_72 (by assumption) rfl ?_
    refine s_geti f_RC_216 dX9_count_75 (by assumption) rfl ?_
    refine z_ireturn dX9_count_78 rfl rfl ⟨Nat.le_refl _, Nat.le_refl _⟩ ?_
    rw [v3.2.1]
    exact ⟨rfl, _, rfl, h1 3 (by decide) c1⟩
  · refine z_aload_n dX9_count_79 rfl ?_
    refine s_getr f_RC_14 dX9_count_80 (by assumption) rfl ?_
    refine s_getr f_RC_240 dX9_count_83 (by assumption) rfl ?_
    refine s_geti f_RC_216 dX9_count_86 (by assumption) rfl ?_
    refine z_ireturn dX9_count_89 rfl rfl ⟨Nat.le_refl _, Nat.le_refl _⟩ ?_
    rw [v4.2.1]
    exact ⟨rfl, _, rfl, h1 4 (by decide) c1⟩
  · refine z_aload_n dX9_count_90 rfl ?_
    refine s_getr f_RC_14 dX9_count_91 (by assumption) rfl ?_
    refine s_getr f_RC_247 dX9_count_94 (by assumption) rfl ?_
    refine s_geti f_RC_216 dX9_count_97 (by assumption) rfl ?_
    refine z_ireturn dX9_count_100 rfl rfl ⟨Nat.le_refl _, Nat.le_refl _⟩ ?_
    rw [v5.2.1]
    exact ⟨rfl, _, rfl, h1 5 (by decide) c1⟩
  · refine z_aload_n dX9_count_101 rfl ?_
    refine s_getr f_RC_28 dX9_count_102 (by assumption) rfl ?_
    refine s_geti f_RC_143 dX9_count_105 (by assumption) rfl ?_
    refine z_ireturn dX9_count_108 rfl rfl ⟨Nat.le_refl _, Nat.le_refl _⟩ ?_
    rw [rL]
    exact ⟨rfl, _, rfl, h1 6 (by decide) c1⟩
  · refine z_bipush (-2) dX9_count_109 (by decide) ?_
    refine z_ireturn dX9_count_111 rfl rfl ⟨Nat.le_refl _, Nat.le_refl _⟩ ?_
    exact ⟨rfl, _, rfl, h0 (fun q => by
      obtain ⟨j, hj, e⟩ := rg_t (by decide) q
      exact c1 j (Nat.zero_le _) hj e)⟩
theorem C_RC_taken {a b : Int32} (hT : tRC sh x) (hR : rRC S x w) (hW : wOK w) (h0 : ¬ rg b 7 = true → P (some (.int (-2))) S) (h1 : rg b 7 = true → ¬ rg a (wq w) = true → P (some (.int (-11))) S)
    (h2 : ∀ k j, k < wq w → a = nI k → j < 7 → b = nI j → P (some (.int (if nS (wnd w k) (wN w k - 1) = j then nI j else -12))) S) : zR G m_RC_taken 2 sh [.ref x, .int a, .int b] S P := by
  obtain ⟨t0, t1, t2, t3, ⟨t4, t4q⟩, ⟨t5, t5t⟩, t6, t7, t8, t9, t10⟩ := id hT
  obtain ⟨u0, u1, u2, u3, u4, u5⟩ := id t1
  have u1a := u1.1
  obtain ⟨r0, rc, rh, rh2, ⟨rq8, rq0, rq⟩, ⟨rL, rtx⟩, rt⟩ := id hR
  obtain ⟨v0, v1, v2, v3, v4, v5⟩ := id r0
  have z0 : zi S (x + 1 + 1) 1 = nI (aN (wA w)) := v0.1
  obtain ⟨g0, gi, ⟨g2, g2q⟩, ⟨g3, g3x⟩, g4⟩ := id hW
  obtain ⟨⟨b1, b2, b3, b4, b5⟩, ⟨e1, e2, e3, e4, e5⟩, eV, eM, eMo, eS, eB⟩ := id g0
  have hv : ∀ j, j < aN (wA w) → ∀ c, c < 4 → aV (wA w) j c < 16 := fun j hj c hc => (eV j hj c hc).2
  refine s_meth 0 ⟨p_RC, rfl, Nat.le_of_ble_eq_true rfl⟩ rfl (fun sz => ?_)
  refine z_iload_n dX9_taken_0 rfl ?_
  refine z_if_lt 10 dX9_taken_1 (by decide) (fun c1 => ?_) (fun c1 => ?_)
  · refine z_bipush (-2) dX9_taken_10 (by decide) ?_
    refine z_ireturn dX9_taken_12 rfl rfl ⟨Nat.le_refl _, Nat.le_refl _⟩ ?_
    first
      | exact ⟨rfl, _, rfl, h0 (fun q => Int32.not_lt.mpr (of_decide_eq_true q).1 c1)⟩
      | exact ⟨rfl, _, rfl, h0 (fun q => by
          obtain ⟨j, hj, rfl⟩ := rg_t (by decide) q
          exact c7 (nI_le (b := 6) (by omega) (by decide)))⟩
      | skip
  · refine z_iload_n dX9_taken_4 rfl ?_
    refine z_bipush 6 dX9_taken_5 (by decide) ?_
    refine z_icmp_le 13 dX9_taken_7 (by decide) (fun c7 => ?_) (fun c7 => ?_)
    · obtain ⟨j, hj, rfl⟩ := nI_of c1
      have hj2 := i_le (b := 6) hj (by decide) c7
      have hj7 : j < 7 := by omega
      refine z_aload_n dX9_taken_13 rfl ?_
      refine z_iload_n dX9_taken_14 rfl ?_
      refine s_callV1 l_RC_152 (C_RC_isQuery hT hR) t0 dX9_taken_15 rfl rfl (Nat.le_of_ble_eq_true rfl) ⟨⟨by decide, by decide⟩, by decide, by decide⟩ ?_
      refine z_if_ne 24 dX9_taken_18 (by decide) (fun c18 => ?_) (fun c18 => ?_)
      · obtain ⟨k, hk, rfl⟩ := rg_t (by omega) (zo_ne0.mp c18)
        have hf := g2q k hk
        have hN0 := hf.1
        have hN50 := hf.2.1
        obtain ⟨N, hN⟩ : ∃ N, wN w k = N + 1 := ⟨wN w k - 1, by omega⟩
        have q4 := (rq k hk).1
        have qs := ((rq k hk).2 N (by omega)).1
        have hs7 : nS (wnd w k) N ≤ 6 := by
          rcases (hf.2.2.2.2.2 N (by omega)).1 with ⟨q, -⟩ | ⟨q, -⟩ | ⟨q, -⟩ <;> omega
        have hA := h2 k j hk rfl hj7 rfl
        rw [hN, Nat.add_sub_cancel] at hA
        rw [hN] at q4
        refine z_aload_n dX9_taken_24 rfl ?_
        refine s_getr f_RC_34 dX9_taken_25 (by assumption) rfl ?_
        refine z_iload_n dX9_taken_28 rfl ?_
        refine s_aald (by decide) dX9_taken_29 t4 (vp_in_nI (by omega) (by decide)) (by rw [nI_clamp (by omega)]; exact if_pos (by omega)) ?_
        refine s_callV1 l_RC_273 (C_Query_lastSort (t4q k (by omega)) q4 (by omega)) (t4q k (by omega)).1 dX9_taken_30 rfl rfl (Nat.le_of_ble_eq_true rfl) ⟨⟨by decide, by decide⟩, by decide, by decide⟩ ?_
        refine z_iload_n dX9_taken_33 rfl ?_
        refine z_icmp_ne 41 dX9_taken_34 (by decide) (fun c34 => ?_) (fun c34 => ?_)
        · rw [qs] at c34
          rw [if_neg (fun q => c34 (by rw [q]))] at hA
          refine z_bipush (-12) dX9_taken_41 (by decide) ?_
          refine z_ireturn dX9_taken_43 rfl rfl ⟨Nat.le_refl _, Nat.le_refl _⟩ ?_
          exact ⟨rfl, _, rfl, hA⟩
        · rw [qs] at c34
          rw [if_pos ((nI_eq (by omega) (by omega)).mp c34)] at hA
          refine z_iload_n dX9_taken_37 rfl ?_
          refine z_goto 43 dX9_taken_38 (by decide) ?_
          refine z_ireturn dX9_taken_43 rfl rfl ⟨Nat.le_refl _, Nat.le_refl _⟩ ?_
          exact ⟨rfl, _, rfl, hA⟩
      · refine z_bipush (-11) dX9_taken_21 (by decide) ?_
        refine z_ireturn dX9_taken_23 rfl rfl ⟨Nat.le_refl _, Nat.le_refl _⟩ ?_
        exact ⟨rfl, _, rfl, h1 (rg_n hj7 (by decide)) (fun q => zoT q c18)⟩
    · refine z_bipush (-2) dX9_taken_10 (by decide) ?_
      refine z_ireturn dX9_taken_12 rfl rfl ⟨Nat.le_refl _, Nat.le_refl _⟩ ?_
      first
        | exact ⟨rfl, _, rfl, h0 (fun q => Int32.not_lt.mpr (of_decide_eq_true q).1 c1)⟩
        | exact ⟨rfl, _, rfl, h0 (fun q => by
            obtain ⟨j, hj, rfl⟩ := rg_t (by decide) q
            exact c7 (nI_le (b := 6) (by omega) (by decide)))⟩
        | skip
theorem C_RC_tape {a b c : Int32} (hT : tRC sh x) (hR : rRC S x w) (h0 : ¬ rg a 6 = true → P (some (.int (-1))) S)
    (h1 : ∀ t S', t < 6 → a = nI t → b = -1 → frS S (inX x) S' → rRC S' x (wTape w t (-1, 0, fun _ => 0)) → P (some (.int 1)) S')
    (hb : rg a 6 = true → ¬ b = -1 → ¬ (rg b 5 = true ∧ c ≤ 60) → P (some (.int (-2))) S) (hs : rg a 6 = true → rg b 5 = true → c < 0 → P (some (.int (-14))) S)
    (h2 : ∀ t k n S', t < 6 → a = nI t → k < 5 → b = nI k → n ≤ 60 → c = nI n → frS S (inX x) S' → rRC S' x (wTape w t (nI k, n, fun _ => 0)) → P (some (.int 1)) S') : zR G m_RC_tape 3 sh [.ref x, .int a, .int b, .int c] S P := by
  obtain ⟨t0, t1, t2, t3, ⟨t4, t4q⟩, ⟨t5, t5t⟩, t6, t7, t8, t9, t10⟩ := id hT
  obtain ⟨u0, u1, u2, u3, u4, u5⟩ := id t1
  have u1a := u1.1
  obtain ⟨r0, rc, rh, rh2, ⟨rq8, rq0, rq⟩, ⟨rL, rtx⟩, rt⟩ := id hR
  obtain ⟨v0, v1, v2, v3, v4, v5⟩ := id r0
  have z0 : zi S (x + 1 + 1) 1 = nI (aN (wA w)) := v0.1
  refine s_meth 0 ⟨p_RC, rfl, Nat.le_of_ble_eq_true rfl⟩ rfl (fun sz => ?_)
  refine z_iload_n dX9_tape_0 rfl ?_
  refine s_callS1 l_RC_256 (C_RC_isTape) dX9_tape_1 rfl rfl (Nat.le_of_ble_eq_true rfl) ⟨⟨by decide, by decide⟩, by decide, by decide⟩ ?_
  refine z_if_ne 9 dX9_tape_4 (by decide) (fun c4 => ?_) (fun c4 => ?_)
  · refine z_iload_n dX9_tape_9 rfl ?_
    refine z_iconst (-1) dX9_tape_10 rfl ?_
    refine z_icmp_ne 27 dX9_tape_11 (by decide) (fun c11 => ?_) (fun c11 => ?_)
    · refine z_iload_n dX9_tape_27 rfl ?_
      refine z_if_lt 42 dX9_tape_28 (by decide) (fun c28 => ?_) (fun c28 => ?_)
      · refine z_bipush (-2) dX9_tape_42 (by decide) ?_
        refine z_ireturn dX9_tape_44 rfl rfl ⟨Nat.le_refl _, Nat.le_refl _⟩ ?_
        first
          | exact ⟨rfl, _, rfl, hb (zo_ne0.mp c4) c11 (fun q => Int32.not_lt.mpr (of_decide_eq_true q.1).1 c28)⟩
          | exact ⟨rfl, _, rfl, hb (zo_ne0.mp c4) c11 (fun q => by
              obtain ⟨j, hj, rfl⟩ := rg_t (by decide) q.1
              exact nI_nlt (show j ≤ 4 by omega) (by omega) c33)⟩
          | exact ⟨rfl, _, rfl, hb (zo_ne0.mp c4) c11 (fun q => c39 q.2)⟩
          | skip
      · refine z_iload_n dX9_tape_31 rfl ?_
        refine z_iconst 4 dX9_tape_32 rfl ?_
        refine z_icmp_gt 42 dX9_tape_33 (by decide) (fun c33 => ?_) (fun c33 => ?_)
        · refine z_bipush (-2) dX9_tape_42 (by decide) ?_
          refine z_ireturn dX9_tape_44 rfl rfl ⟨Nat.le_refl _, Nat.le_refl _⟩ ?_
          first
            | exact ⟨rfl, _, rfl, hb (zo_ne0.mp c4) c11 (fun q => Int32.not_lt.mpr (of_decide_eq_true q.1).1 c28)⟩
            | exact ⟨rfl, _, rfl, hb (zo_ne0.mp c4) c11 (fun q => by
                obtain ⟨j, hj, rfl⟩ := rg_t (by decide) q.1
                exact nI_nlt (show j ≤ 4 by omega) (by omega) c33)⟩
            | exact ⟨rfl, _, rfl, hb (zo_ne0.mp c4) c11 (fun q => c39 q.2)⟩
            | skip
        · refine z_iload_n dX9_tape_36 rfl ?_
          refine z_bipush 60 dX9_tape_37 (by decide) ?_
          refine z_icmp_le 45 dX9_tape_39 (by decide) (fun c39 => ?_) (fun c39 => ?_)
          · obtain ⟨k, hk, rfl⟩ := nI_of c28
            have hk5 : k < 5 := by have := i_nlt (a := 4) hk c33; omega
            refine z_iload_n dX9_tape_45 rfl ?_
            refine z_if_ge 52 dX9_tape_46 (by decide) (fun c46 => ?_) (fun c46 => ?_)
            · obtain ⟨n, hn, rfl⟩ := nI_of (Int32.not_lt.mpr c46)
              have hn60 := i_le (b := 60) hn (by decide) c39
              obtain ⟨t, ht, rfl⟩ := rg_t (by decide) (zo_ne0.mp c4)
              refine z_aload_n dX9_tape_52 rfl ?_
              refine s_getr f_RC_44 dX9_tape_53 (by assumption) rfl ?_
              refine z_iload_n dX9_tape_56 rfl ?_
              refine s_aald (by decide) dX9_tape_57 t5 (vp_in_nI ht (by decide)) (by rw [nI_clamp (by omega)]; exact if_pos ht) ?_
              refine z_iload_n dX9_tape_58 rfl ?_
              refine z_iload_n dX9_tape_59 rfl ?_
              refine n_callV0 l_RC_276 (C_Tape_become (t5t t ht)) (t5t t ht).1 dX9_tape_60 rfl rfl (Nat.le_of_ble_eq_true rfl) ⟨⟨by decide, by decide⟩, by decide, by decide⟩ (fun S60 q60 => ?_)
              refine z_iconst 1 dX9_tape_63 rfl ?_
              refine z_ireturn dX9_tape_64 rfl rfl ⟨Nat.le_refl _, Nat.le_refl _⟩ ?_
              exact ⟨rfl, _, rfl, h2 t k n _ ht rfl hk5 rfl hn60 rfl (q60.1.weaken (fun b hb => by unfold inX; omega)) (hR.tape q60.1 ht (fun b b1 b2 b3 => by omega) ⟨q60.2.1, q60.2.2.1, q60.2.2.2⟩)⟩
            · refine z_bipush (-14) dX9_tape_49 (by decide) ?_
              refine z_ireturn dX9_tape_51 rfl rfl ⟨Nat.le_refl _, Nat.le_refl _⟩ ?_
              exact ⟨rfl, _, rfl, hs (zo_ne0.mp c4) (rg_n hk5 (by decide)) (Int32.not_le.mp c46)⟩
          · refine z_bipush (-2) dX9_tape_42 (by decide) ?_
            refine z_ireturn dX9_tape_44 rfl rfl ⟨Nat.le_refl _, Nat.le_refl _⟩ ?_
            first
              | exact ⟨rfl, _, rfl, hb (zo_ne0.mp c4) c11 (fun q => Int32.not_lt.mpr (of_decide_eq_true q.1).1 c28)⟩
              | exact ⟨rfl, _, rfl, hb (zo_ne0.mp c4) c11 (fun q => by
                  obtain ⟨j, hj, rfl⟩ := rg_t (by decide) q.1
                  exact nI_nlt (show j ≤ 4 by omega) (by omega) c33)⟩
              | exact ⟨rfl, _, rfl, hb (zo_ne0.mp c4) c11 (fun q => c39 q.2)⟩
              | skip
    · obtain ⟨t, ht, rfl⟩ := rg_t (by decide) (zo_ne0.mp c4)
      refine z_aload_n dX9_tape_14 rfl ?_
      refine s_getr f_RC_44 dX9_tape_15 (by assumption) rfl ?_
      refine z_iload_n dX9_tape_18 rfl ?_
      refine s_aald (by decide) dX9_tape_19 t5 (vp_in_nI ht (by decide)) (by rw [nI_clamp (by omega)]; exact if_pos ht) ?_
      refine z_iload_n dX9_tape_20 rfl ?_
      refine z_iconst 0 dX9_tape_21 rfl ?_
      refine n_callV0 l_RC_276 (C_Tape_become (t5t t ht)) (t5t t ht).1 dX9_tape_22 rfl rfl (Nat.le_of_ble_eq_true rfl) ⟨⟨by decide, by decide⟩, by decide, by decide⟩ (fun S22 q22 => ?_)
      refine z_iconst 1 dX9_tape_25 rfl ?_
      refine z_ireturn dX9_tape_26 rfl rfl ⟨Nat.le_refl _, Nat.le_refl _⟩ ?_
      exact ⟨rfl, _, rfl, h1 t _ ht rfl c11 (q22.1.weaken (fun b hb => by unfold inX; omega)) (hR.tape q22.1 ht (fun b b1 b2 b3 => by omega) ⟨q22.2.1.trans c11, q22.2.2.1, q22.2.2.2⟩)⟩
  · refine z_iconst (-1) dX9_tape_7 rfl ?_
    refine z_ireturn dX9_tape_8 rfl rfl ⟨Nat.le_refl _, Nat.le_refl _⟩ ?_
    exact ⟨rfl, _, rfl, h0 (fun q => zoT q c4)⟩
def lset (g : Nat → Int64) (i : Nat) (v : Int64) : Nat → Int64 := fun j => if j = i then v else g j
theorem lset_s {g : Nat → Int64} {i : Nat} {v : Int64} : lset g i v i = v := if_pos rfl
theorem lset_n {g : Nat → Int64} {i j : Nat} {v : Int64} (h : j ≠ i) : lset g i v j = g j := if_neg h
theorem C_RC_item {a b : Int32} {y : Int64} (hT : tRC sh x) (hR : rRC S x w) (hW : wOK w) (h0 : ¬ rg a 6 = true → P (some (.int (-1))) S)
    (h1 : ∀ t, t < 6 → a = nI t → wts w t = -1 → P (some (.int (-11))) S) (hb : ∀ t, t < 6 → a = nI t → ¬ wts w t = -1 → ¬ rg b (wtz w t) = true → P (some (.int (-13))) S)
    (h2 : ∀ t k i S', t < 6 → a = nI t → k < 5 → wts w t = nI k → i < wtz w t → b = nI i → frS S (inX x) S' → rRC S' x (wTape w t (wts w t, wtz w t, lset (wti w t) i (fitv k y))) → P (some (.int 1)) S') : zR G m_RC_item 2 sh [.ref x, .int a, .int b, .long y] S P := by
  obtain ⟨t0, t1, t2, t3, ⟨t4, t4q⟩, ⟨t5, t5t⟩, t6, t7, t8, t9, t10⟩ := id hT
  obtain ⟨u0, u1, u2, u3, u4, u5⟩ := id t1
  have u1a := u1.1
  obtain ⟨r0, rc, rh, rh2, ⟨rq8, rq0, rq⟩, ⟨rL, rtx⟩, rt⟩ := id hR
  obtain ⟨v0, v1, v2, v3, v4, v5⟩ := id r0
  have z0 : zi S (x + 1 + 1) 1 = nI (aN (wA w)) := v0.1
  obtain ⟨g0, gi, ⟨g2, g2q⟩, ⟨g3, g3x⟩, g4⟩ := id hW
  obtain ⟨⟨b1, b2, b3, b4, b5⟩, ⟨e1, e2, e3, e4, e5⟩, eV, eM, eMo, eS, eB⟩ := id g0
  have hv : ∀ j, j < aN (wA w) → ∀ c, c < 4 → aV (wA w) j c < 16 := fun j hj c hc => (eV j hj c hc).2
  refine s_meth 0 ⟨p_RC, rfl, Nat.le_of_ble_eq_true rfl⟩ rfl (fun sz => ?_)
  refine z_iload_n dX9_item_0 rfl ?_
  refine s_callS1 l_RC_256 (C_RC_isTape) dX9_item_1 rfl rfl (Nat.le_of_ble_eq_true rfl) ⟨⟨by decide, by decide⟩, by decide, by decide⟩ ?_
  refine z_if_ne 9 dX9_item_4 (by decide) (fun c4 => ?_) (fun c4 => ?_)
  · obtain ⟨t, ht, rfl⟩ := rg_t (by decide) (zo_ne0.mp c4)
    have hO := g4 t ht
    obtain ⟨w1, w2, w3⟩ := rt t ht
    have hz60 : wtz w t ≤ 60 := hO.2.1
    refine z_aload_n dX9_item_9 rfl ?_
    refine s_getr f_RC_44 dX9_item_10 (by assumption) rfl ?_
    refine z_iload_n dX9_item_13 rfl ?_
    refine s_aald (by decide) dX9_item_14 t5 (vp_in_nI ht (by decide)) (by rw [nI_clamp (by omega)]; exact if_pos ht) ?_
    refine s_callV1 l_RC_259 (C_Tape_isNothing (t5t t ht)) (t5t t ht).1 dX9_item_15 rfl rfl (Nat.le_of_ble_eq_true rfl) ⟨⟨by decide, by decide⟩, by decide, by decide⟩ ?_
    refine z_if_eq 24 dX9_item_18 (by decide) (fun c18 => ?_) (fun c18 => ?_)
    · have hn := of_decide_eq_false (zo_eq0.mp c18)
      rw [w1] at hn
      obtain ⟨k, hk5, hk⟩ : ∃ k, k < 5 ∧ wts w t = nI k := hO.1.resolve_left (fun q => hn q.1)
      refine z_aload_n dX9_item_24 rfl ?_
      refine s_getr f_RC_44 dX9_item_25 (by assumption) rfl ?_
      refine z_iload_n dX9_item_28 rfl ?_
      refine s_aald (by decide) dX9_item_29 t5 (vp_in_nI ht (by decide)) (by rw [nI_clamp (by omega)]; exact if_pos ht) ?_
      refine z_iload_n dX9_item_30 rfl ?_
      refine s_callV1 l_RC_279 (C_Tape_hasItem (t5t t ht)) (t5t t ht).1 dX9_item_31 rfl rfl (Nat.le_of_ble_eq_true rfl) ⟨⟨by decide, by decide⟩, by decide, by decide⟩ ?_
      rw [w2]
      refine z_if_ne 40 dX9_item_34 (by decide) (fun c34 => ?_) (fun c34 => ?_)
      · obtain ⟨i, hi, rfl⟩ := rg_t (by omega) (zo_ne0.mp c34)
        refine z_aload_n dX9_item_40 rfl ?_
        refine s_getr f_RC_44 dX9_item_41 (by assumption) rfl ?_
        refine z_iload_n dX9_item_44 rfl ?_
        refine s_aald (by decide) dX9_item_45 t5 (vp_in_nI ht (by decide)) (by rw [nI_clamp (by omega)]; exact if_pos ht) ?_
        refine z_iload_n dX9_item_46 rfl ?_
        refine z_lload_n dX9_item_47 rfl ?_
        refine s_callV0 l_RC_282 (C_Tape_put (t5t t ht) (w1.trans hk) hk5 (show i < 60 by omega)) (t5t t ht).1 dX9_item_48 rfl rfl (Nat.le_of_ble_eq_true rfl) ⟨⟨by decide, by decide⟩, by decide, by decide⟩ ?_
        refine z_iconst 1 dX9_item_51 rfl ?_
        refine z_ireturn dX9_item_52 rfl rfl ⟨Nat.le_refl _, Nat.le_refl _⟩ ?_
        have f2 : frS S (fun b => b = x + 355 + 2 * t + 1) (zsj S (x + 355 + 2 * t + 1) i (fitv k y)) := frS.setj rfl
        refine ⟨rfl, _, rfl, h2 t k i _ ht rfl hk5 hk hi rfl (f2.weaken (fun b hb => by unfold inX; omega)) (hR.tape f2 ht (fun b b1 b2 b3 => by omega) ⟨w1, w2, fun j hj => ?_⟩)⟩
        by_cases e : j = i
        · subst e; exact zup_same.trans lset_s.symm
        · exact (zup_ne (by omega)).trans ((w3 j hj).trans (lset_n e).symm)
      · refine z_bipush (-13) dX9_item_37 (by decide) ?_
        refine z_ireturn dX9_item_39 rfl rfl ⟨Nat.le_refl _, Nat.le_refl _⟩ ?_
        exact ⟨rfl, _, rfl, hb t ht rfl hn (fun q => zoT q c34)⟩
    · have hn := of_decide_eq_true (zo_ne0.mp c18)
      rw [w1] at hn
      refine z_bipush (-11) dX9_item_21 (by decide) ?_
      refine z_ireturn dX9_item_23 rfl rfl ⟨Nat.le_refl _, Nat.le_refl _⟩ ?_
      exact ⟨rfl, _, rfl, h1 t ht rfl hn⟩
  · refine z_iconst (-1) dX9_item_7 rfl ?_
    refine z_ireturn dX9_item_8 rfl rfl ⟨Nat.le_refl _, Nat.le_refl _⟩ ?_
    exact ⟨rfl, _, rfl, h0 (fun q => zoT q c4)⟩
theorem C_RC_read {a b : Int32} (hT : tRC sh x) (hR : rRC S x w) (hW : wOK w) (h0 : (∀ t, t < 6 → a = nI t → ¬ rg b (wtz w t) = true) → P (some (.long (-9223372036854775808))) S)
    (h2 : ∀ t i, t < 6 → a = nI t → i < wtz w t → b = nI i → P (some (.long (wti w t i))) S) : zR G m_RC_read 2 sh [.ref x, .int a, .int b] S P := by
  obtain ⟨t0, t1, t2, t3, ⟨t4, t4q⟩, ⟨t5, t5t⟩, t6, t7, t8, t9, t10⟩ := id hT
  obtain ⟨u0, u1, u2, u3, u4, u5⟩ := id t1
  have u1a := u1.1
  obtain ⟨r0, rc, rh, rh2, ⟨rq8, rq0, rq⟩, ⟨rL, rtx⟩, rt⟩ := id hR
  obtain ⟨v0, v1, v2, v3, v4, v5⟩ := id r0
  have z0 : zi S (x + 1 + 1) 1 = nI (aN (wA w)) := v0.1
  obtain ⟨g0, gi, ⟨g2, g2q⟩, ⟨g3, g3x⟩, g4⟩ := id hW
  obtain ⟨⟨b1, b2, b3, b4, b5⟩, ⟨e1, e2, e3, e4, e5⟩, eV, eM, eMo, eS, eB⟩ := id g0
  have hv : ∀ j, j < aN (wA w) → ∀ c, c < 4 → aV (wA w) j c < 16 := fun j hj c hc => (eV j hj c hc).2
  refine s_meth 0 ⟨p_RC, rfl, Nat.le_of_ble_eq_true rfl⟩ rfl (fun sz => ?_)
  refine z_iload_n dX9_read_0 rfl ?_
  refine s_callS1 l_RC_256 (C_RC_isTape) dX9_read_1 rfl rfl (Nat.le_of_ble_eq_true rfl) ⟨⟨by decide, by decide⟩, by decide, by decide⟩ ?_
  refine z_if_eq 20 dX9_read_4 (by decide) (fun c4 => ?_) (fun c4 => ?_)
  · have hno : ∀ t, t < 6 → a = nI t → ¬ rg b (wtz w t) = true := fun t ht e => by
      subst e
      exact (zoT (rg_n ht (by decide)) c4).elim
    refine z_ldc2 (-9223372036854775808) v_RC_228 dX9_read_20 ?_
    refine z_lreturn dX9_read_23 rfl ⟨Nat.le_refl _, Nat.le_refl _⟩ ?_
    exact ⟨rfl, _, rfl, h0 hno⟩
  · obtain ⟨t, ht, rfl⟩ := rg_t (by decide) (zo_ne0.mp c4)
    have hO := g4 t ht
    obtain ⟨w1, w2, w3⟩ := rt t ht
    have hz60 : wtz w t ≤ 60 := hO.2.1
    refine z_aload_n dX9_read_7 rfl ?_
    refine s_getr f_RC_44 dX9_read_8 (by assumption) rfl ?_
    refine z_iload_n dX9_read_11 rfl ?_
    refine s_aald (by decide) dX9_read_12 t5 (vp_in_nI ht (by decide)) (by rw [nI_clamp (by omega)]; exact if_pos ht) ?_
    refine z_iload_n dX9_read_13 rfl ?_
    refine s_callV1 l_RC_279 (C_Tape_hasItem (t5t t ht)) (t5t t ht).1 dX9_read_14 rfl rfl (Nat.le_of_ble_eq_true rfl) ⟨⟨by decide, by decide⟩, by decide, by decide⟩ ?_
    rw [w2]
    refine z_if_ne 24 dX9_read_17 (by decide) (fun c17 => ?_) (fun c17 => ?_)
    · obtain ⟨i, hi, rfl⟩ := rg_t (by omega) (zo_ne0.mp c17)
      have hA := h2 t i ht rfl hi rfl
      have e3 := w3 i (by omega)
      refine z_aload_n dX9_read_24 rfl ?_
      refine s_getr f_RC_44 dX9_read_25 (by assumption) rfl ?_
      refine z_iload_n dX9_read_28 rfl ?_
      refine s_aald (by decide) dX9_read_29 t5 (vp_in_nI ht (by decide)) (by rw [nI_clamp (by omega)]; exact if_pos ht) ?_
      refine s_getr f_RC_266 dX9_read_30 (t5t t ht).1 rfl ?_
      refine z_iload_n dX9_read_33 rfl ?_
      refine s_lald dX9_read_34 ((t5t t ht).2) (vp_in_nI (by omega) (by decide)) ?_
      rw [nI_clamp (by omega), e3]
      refine z_lreturn dX9_read_35 rfl ⟨Nat.le_refl _, Nat.le_refl _⟩ ?_
      exact ⟨rfl, _, rfl, hA⟩
    · have hno : ∀ u, u < 6 → nI t = nI u → ¬ rg b (wtz w u) = true := fun u hu e => by
        rw [← (nI_eq (by omega) (by omega)).mp e]
        exact fun q => zoT q c17
      refine z_ldc2 (-9223372036854775808) v_RC_228 dX9_read_20 ?_
      refine z_lreturn dX9_read_23 rfl ⟨Nat.le_refl _, Nat.le_refl _⟩ ?_
      exact ⟨rfl, _, rfl, h0 hno⟩
/-- n items from i on of f come to g from j on -/
def lcpy (f g : Nat → Int64) (i j n : Nat) : Nat → Int64 := fun k => if j ≤ k ∧ k < j + n then f (i + (k - j)) else g k
theorem C_RC_shift {a b c d e : Int32} (hT : tRC sh x) (hR : rRC S x w) (hW : wOK w) (h0 : ¬ (rg a 6 = true ∧ rg c 6 = true) → P (some (.int (-1))) S)
    (h1 : ∀ t u, t < 6 → u < 6 → a = nI t → c = nI u → (wts w t = -1 ∨ wts w u = -1) → P (some (.int (-11))) S) (hc : ∀ t u, t < 6 → u < 6 → a = nI t → c = nI u → ¬ (wts w t = -1 ∨ wts w u = -1) → ¬ wts w t = wts w u → P (some (.int (-12))) S)
    (hb : ∀ t u, t < 6 → u < 6 → a = nI t → c = nI u → ¬ (wts w t = -1 ∨ wts w u = -1) → wts w t = wts w u → ¬ ((0 ≤ e ∧ 0 ≤ b ∧ b ≤ nI (wtz w t) - e) ∧ (0 ≤ e ∧ 0 ≤ d ∧ d ≤ nI (wtz w u) - e)) → P (some (.int (-13))) S)
    (h2 : ∀ t u i j n S', t < 6 → u < 6 → a = nI t → c = nI u → ¬ (wts w t = -1 ∨ wts w u = -1) → wts w t = wts w u → b = nI i → d = nI j → e = nI n → i + n ≤ wtz w t → j + n ≤ wtz w u → frS S (inX x) S' → rRC S' x (wTape w u (wts w u, wtz w u, lcpy (wti w t) (wti w u) i j n)) → P (some (.int (nI n))) S') : zR G m_RC_shift 2 sh [.ref x, .int a, .int b, .int c, .int d, .int e] S P := by
  obtain ⟨t0, t1, t2, t3, ⟨t4, t4q⟩, ⟨t5, t5t⟩, t6, t7, t8, t9, t10⟩ := id hT
  obtain ⟨u0, u1, u2, u3, u4, u5⟩ := id t1
  have u1a := u1.1
  obtain ⟨r0, rc, rh, rh2, ⟨rq8, rq0, rq⟩, ⟨rL, rtx⟩, rt⟩ := id hR
  obtain ⟨v0, v1, v2, v3, v4, v5⟩ := id r0
  have z0 : zi S (x + 1 + 1) 1 = nI (aN (wA w)) := v0.1
  obtain ⟨g0, gi, ⟨g2, g2q⟩, ⟨g3, g3x⟩, g4⟩ := id hW
  obtain ⟨⟨b1, b2, b3, b4, b5⟩, ⟨e1, e2, e3, e4, e5⟩, eV, eM, eMo, eS, eB⟩ := id g0
  have hv : ∀ j, j < aN (wA w) → ∀ c, c < 4 → aV (wA w) j c < 16 := fun j hj c hc => (eV j hj c hc).2
  have str : ∀ (z : Nat) (y k : Int32), z ≤ 60 → 0 ≤ k → 0 ≤ y → y ≤ nI z - k → ∃ i n, y = nI i ∧ k = nI n ∧ i + n ≤ z := fun z y k hz hk hy hle => by
    obtain ⟨n, hn, rfl⟩ := nI_of (Int32.not_lt.mpr hk)
    obtain ⟨i, hi, rfl⟩ := nI_of (Int32.not_lt.mpr hy)
    refine ⟨i, n, rfl, rfl, ?_⟩
    have h1 := Int32.le_iff_toInt_le.mp hle
    rw [nI_toInt hi, Int32.toInt_sub, nI_toInt hn, nI_toInt (by omega)] at h1
    have e : ((z : Int) - (n : Int)).bmod (2 ^ 32) = (z : Int) - n := by
      rw [Int.bmod_eq_of_le (by omega) (by omega)]
    rw [e] at h1
    omega
  refine s_meth 2 ⟨p_RC, rfl, Nat.le_of_ble_eq_true rfl⟩ rfl (fun sz => ?_)
  refine z_iload_n dX9_shift_0 rfl ?_
  refine s_callS1 l_RC_256 (C_RC_isTape) dX9_shift_1 rfl rfl (Nat.le_of_ble_eq_true rfl) ⟨⟨by decide, by decide⟩, by decide, by decide⟩ ?_
  refine z_if_eq 14 dX9_shift_4 (by decide) (fun c4 => ?_) (fun c4 => ?_)
  · refine z_iconst (-1) dX9_shift_14 rfl ?_
    refine z_ireturn dX9_shift_15 rfl rfl ⟨Nat.le_refl _, Nat.le_refl _⟩ ?_
    first
      | exact ⟨rfl, _, rfl, h0 (fun q => zoT q.1 c4)⟩
      | exact ⟨rfl, _, rfl, h0 (fun q => zoT q.2 c11)⟩
      | skip
  · refine z_iload_n dX9_shift_7 rfl ?_
    refine s_callS1 l_RC_256 (C_RC_isTape) dX9_shift_8 rfl rfl (Nat.le_of_ble_eq_true rfl) ⟨⟨by decide, by decide⟩, by decide, by decide⟩ ?_
    refine z_if_ne 16 dX9_shift_11 (by decide) (fun c11 => ?_) (fun c11 => ?_)
    · obtain ⟨t, ht, rfl⟩ := rg_t (by decide) (zo_ne0.mp c4)
      obtain ⟨u, hu, rfl⟩ := rg_t (by decide) (zo_ne0.mp c11)
      have hO := g4 t ht
      have hO2 := g4 u hu
      obtain ⟨w1, w2, w3⟩ := rt t ht
      obtain ⟨x1, x2, x3⟩ := rt u hu
      have hz60 : wtz w t ≤ 60 := hO.2.1
      have hy60 : wtz w u ≤ 60 := hO2.2.1
      refine z_aload_n dX9_shift_16 rfl ?_
      refine s_getr f_RC_44 dX9_shift_17 (by assumption) rfl ?_
      refine z_iload_n dX9_shift_20 rfl ?_
      refine s_aald (by decide) dX9_shift_21 t5 (vp_in_nI ht (by decide)) (by rw [nI_clamp (by omega)]; exact if_pos ht) ?_
      refine z_astore (lv' := [_, _, _, _, _, _, _, _]) dX9_shift_22 (by decide) rfl ?_
      refine z_aload_n dX9_shift_24 rfl ?_
      refine s_getr f_RC_44 dX9_shift_25 (by assumption) rfl ?_
      refine z_iload_n dX9_shift_28 rfl ?_
      refine s_aald (by decide) dX9_shift_29 t5 (vp_in_nI hu (by decide)) (by rw [nI_clamp (by omega)]; exact if_pos hu) ?_
      refine z_astore (lv' := [_, _, _, _, _, _, _, _]) dX9_shift_30 (by decide) rfl ?_
      refine z_aload dX9_shift_32 rfl ?_
      refine s_callV1 l_RC_259 (C_Tape_isNothing (t5t t ht)) (t5t t ht).1 dX9_shift_34 rfl rfl (Nat.le_of_ble_eq_true rfl) ⟨⟨by decide, by decide⟩, by decide, by decide⟩ ?_
      refine z_if_ne 48 dX9_shift_37 (by decide) (fun c37 => ?_) (fun c37 => ?_)
      · have hn := of_decide_eq_true (zo_ne0.mp c37)
        rw [w1] at hn
        have hnn : wts w t = -1 ∨ wts w u = -1 := Or.inl hn
        refine z_bipush (-11) dX9_shift_48 (by decide) ?_
        refine z_ireturn dX9_shift_50 rfl rfl ⟨Nat.le_refl _, Nat.le_refl _⟩ ?_
        exact ⟨rfl, _, rfl, h1 t u ht hu rfl rfl hnn⟩
      · have hn := of_decide_eq_false (zo_eq0.mp c37)
        rw [w1] at hn
        refine z_aload dX9_shift_40 rfl ?_
        refine s_callV1 l_RC_259 (C_Tape_isNothing (t5t u hu)) (t5t u hu).1 dX9_shift_42 rfl rfl (Nat.le_of_ble_eq_true rfl) ⟨⟨by decide, by decide⟩, by decide, by decide⟩ ?_
        refine z_if_eq 51 dX9_shift_45 (by decide) (fun c45 => ?_) (fun c45 => ?_)
        · have hm := of_decide_eq_false (zo_eq0.mp c45)
          rw [x1] at hm
          have hnn : ¬ (wts w t = -1 ∨ wts w u = -1) := fun q => q.elim hn hm
          refine z_aload dX9_shift_51 rfl ?_
          refine s_geti f_RC_262 dX9_shift_53 (t5t t ht).1 rfl ?_
          refine z_aload dX9_shift_56 rfl ?_
          refine s_geti f_RC_262 dX9_shift_58 (t5t u hu).1 rfl ?_
          rw [w1, x1]
          refine z_icmp_eq 67 dX9_shift_61 (by decide) (fun c61 => ?_) (fun c61 => ?_)
          · refine z_aload dX9_shift_67 rfl ?_
            refine z_iload_n dX9_shift_69 rfl ?_
            refine z_iload dX9_shift_70 rfl ?_
            refine s_callV1 l_RC_286 (C_Tape_hasStretch (t5t t ht)) (t5t t ht).1 dX9_shift_72 rfl rfl (Nat.le_of_ble_eq_true rfl) ⟨⟨by decide, by decide⟩, by decide, by decide⟩ ?_
            rw [w2]
            refine z_if_eq 90 dX9_shift_75 (by decide) (fun c75 => ?_) (fun c75 => ?_)
            · refine z_bipush (-13) dX9_shift_90 (by decide) ?_
              refine z_ireturn dX9_shift_92 rfl rfl ⟨Nat.le_refl _, Nat.le_refl _⟩ ?_
              first
                | exact ⟨rfl, _, rfl, hb t u ht hu rfl rfl hnn c61 (fun q => zoT (decide_eq_true q.1) c75)⟩
                | exact ⟨rfl, _, rfl, hb t u ht hu rfl rfl hnn c61 (fun q => zoT (decide_eq_true q.2) c87)⟩
                | skip
            · refine z_aload dX9_shift_78 rfl ?_
              refine z_iload dX9_shift_80 rfl ?_
              refine z_iload dX9_shift_82 rfl ?_
              refine s_callV1 l_RC_286 (C_Tape_hasStretch (t5t u hu)) (t5t u hu).1 dX9_shift_84 rfl rfl (Nat.le_of_ble_eq_true rfl) ⟨⟨by decide, by decide⟩, by decide, by decide⟩ ?_
              rw [x2]
              refine z_if_ne 93 dX9_shift_87 (by decide) (fun c87 => ?_) (fun c87 => ?_)
              · have s1 := of_decide_eq_true (zo_ne0.mp c75)
                have s2 := of_decide_eq_true (zo_ne0.mp c87)
                obtain ⟨i, n, rfl, rfl, hin⟩ := str _ _ _ hz60 s1.1 s1.2.1 s1.2.2
                obtain ⟨j, n2, rfl, en, hjn⟩ := str _ _ _ hy60 s2.1 s2.2.1 s2.2.2
                have en := (nI_eq (by omega) (by omega)).mp en
                subst en
                refine z_aload dX9_shift_93 rfl ?_
                refine s_getr f_RC_266 dX9_shift_95 (t5t t ht).1 rfl ?_
                refine z_iload_n dX9_shift_98 rfl ?_
                refine z_aload dX9_shift_99 rfl ?_
                refine s_getr f_RC_266 dX9_shift_101 (t5t u hu).1 rfl ?_
                refine z_iload dX9_shift_104 rfl ?_
                refine z_iload dX9_shift_106 rfl ?_
                refine s_copyl j_RC_289 dX9_shift_108 ((t5t t ht).2) ((t5t u hu).2) (⟨⟨nI_pos (by omega), nI_pos (by omega), nI_pos (by omega)⟩, (by rw [nI_clamp (by omega), nI_clamp (by omega)]; omega), (by rw [nI_clamp (by omega), nI_clamp (by omega)]; omega)⟩) ⟨by decide, Nat.le_of_ble_eq_true rfl⟩ ?_
                rw [nI_clamp (show i < 2 ^ 31 by omega), nI_clamp (show j < 2 ^ 31 by omega), nI_clamp (show n < 2 ^ 31 by omega)]
                refine z_iload dX9_shift_111 rfl ?_
                refine z_ireturn dX9_shift_113 rfl rfl ⟨Nat.le_refl _, Nat.le_refl _⟩ ?_
                have f2 : frS S (fun b => b = x + 355 + 2 * u + 1) (zsJ S (x + 355 + 2 * u + 1) (va_cpy (zj S (x + 355 + 2 * t + 1)) (zj S (x + 355 + 2 * u + 1)) i j n)) := fun b hb => ⟨rfl, rfl, rfl, zrow_off hb⟩
                refine ⟨rfl, _, rfl, h2 t u i j n _ ht hu rfl rfl hnn c61 rfl rfl rfl hin hjn (f2.weaken (fun b hb => by unfold inX; omega)) (hR.tape f2 hu (fun b b1 b2 b3 => by omega) ⟨x1, x2, fun k hk => ?_⟩)⟩
                show zrow S.2.2.2 (x + 355 + 2 * u + 1) (va_cpy (zj S (x + 355 + 2 * t + 1)) (zj S (x + 355 + 2 * u + 1)) i j n) (x + 355 + 2 * u + 1) k = lcpy (wti w t) (wti w u) i j n k
                rw [zrow_on]
                unfold va_cpy lcpy
                by_cases q : j ≤ k ∧ k < j + n
                · rw [if_pos q, if_pos q]; exact w3 _ (by omega)
                · rw [if_neg q, if_neg q]; exact x3 k hk
              · refine z_bipush (-13) dX9_shift_90 (by decide) ?_
                refine z_ireturn dX9_shift_92 rfl rfl ⟨Nat.le_refl _, Nat.le_refl _⟩ ?_
                first
                  | exact ⟨rfl, _, rfl, hb t u ht hu rfl rfl hnn c61 (fun q => zoT (decide_eq_true q.1) c75)⟩
                  | exact ⟨rfl, _, rfl, hb t u ht hu rfl rfl hnn c61 (fun q => zoT (decide_eq_true q.2) c87)⟩
                  | skip
          · refine z_bipush (-12) dX9_shift_64 (by decide) ?_
            refine z_ireturn dX9_shift_66 rfl rfl ⟨Nat.le_refl _, Nat.le_refl _⟩ ?_
            exact ⟨rfl, _, rfl, hc t u ht hu rfl rfl hnn c61⟩
        · have hm := of_decide_eq_true (zo_ne0.mp c45)
          rw [x1] at hm
          have hnn : wts w t = -1 ∨ wts w u = -1 := Or.inr hm
          refine z_bipush (-11) dX9_shift_48 (by decide) ?_
          refine z_ireturn dX9_shift_50 rfl rfl ⟨Nat.le_refl _, Nat.le_refl _⟩ ?_
          exact ⟨rfl, _, rfl, h1 t u ht hu rfl rfl hnn⟩
    · refine z_iconst (-1) dX9_shift_14 rfl ?_
      refine z_ireturn dX9_shift_15 rfl rfl ⟨Nat.le_refl _, Nat.le_refl _⟩ ?_
      first
        | exact ⟨rfl, _, rfl, h0 (fun q => zoT q.1 c4)⟩
        | exact ⟨rfl, _, rfl, h0 (fun q => zoT q.2 c11)⟩
        | skip
end RCB

