/-! ===== the model: the text, what is told by hand, the image, tapes ===== -/
theorem rMo.upd {S S' : zSt} {m : Nat} {w : Wd} {P : Nat → Prop} {qs : Nat × (Nat → Nat × Nd)} {tx : Nat × (Nat → Int32)} {ts : Nat → Int32 × Nat × (Nat → Int64)} (h : rMo S m w) (hf : frS S P S') (hP : ¬ P (m + 1) ∧ ¬ P (m + 3)) (h3 : zi S' m 3 = zi S m 3)
    (hq : zi S' m 4 = nI qs.1 ∧ ∀ k, k < qs.1 → za S' (m + 4) k = nI (60 * k + ((qs.2 k).1 - 1)) ∧ rNd S' m (60 * k) (qs.2 k).1 (qs.2 k).2) (ht : zi S' m 13 = nI tx.1 ∧ ∀ i, i < tx.1 → za S' (m + 11) i = tx.2 i)
    (hts : ∀ t, t < 6 → za S' (m + 13) t = (ts t).1 ∧ za S' (m + 14) t = nI (ts t).2.1 ∧ ∀ i, i < 60 → zj S' (m + 16 + t) i = (ts t).2.2 i) : rMo S' m (w.1, w.2.1, qs, tx, ts) := by
  obtain ⟨k1, k2, k3, -⟩ := h
  exact ⟨fun i hi => (congrFun (hf _ hP.1).2.2.1 i).trans (k1 i hi), h3.trans k2, fun q i hi => (congrFun (hf _ hP.2).2.2.1 i).trans (k3 q i hi), hq, ht, hts⟩
theorem str_sub {z : Nat} {y k : Int32} (hz : z ≤ 60) (hk : 0 ≤ k) (hy : 0 ≤ y) (hle : y ≤ nI z - k) : ∃ i n, y = nI i ∧ k = nI n ∧ i + n ≤ z := by
  obtain ⟨n, hn, rfl⟩ := nI_of (Int32.not_lt.mpr hk)
  obtain ⟨i, hi, rfl⟩ := nI_of (Int32.not_lt.mpr hy)
  refine ⟨i, n, rfl, rfl, ?_⟩
  have h1 := Int32.le_iff_toInt_le.mp hle
  rw [nI_toInt hi, Int32.toInt_sub, nI_toInt hn, nI_toInt (by omega)] at h1
  have e : ((z : Int) - (n : Int)).bmod (2 ^ 32) = (z : Int) - n := by
    rw [Int.bmod_eq_of_le (by omega) (by omega)]
  rw [e] at h1
  omega
theorem sub_str {z i n : Nat} (hz : z ≤ 60) (hi : i < 2 ^ 31) (hn : n < 2 ^ 31) (h : nI i ≤ nI z - nI n) : i + n ≤ z := by
  obtain ⟨i', n', e1, e2, h3⟩ := str_sub hz (nI_pos' hn) (nI_pos' hi) h
  rw [(nI_eq hi (by omega)).mp e1, (nI_eq hn (by omega)).mp e2]
  exact h3
theorem nI21 (n : Nat) : (2 : Int32) * nI n = nI (2 * n) := by rw [show (2 : Int32) = nI 2 from rfl, nI_mulN]
section MOC
variable {G : zG} {sh : Nat → Option zSh} {S : zSt} {m n c k j a b : Nat} {w : Wd} {v : Nat → Nat → Nat} {P : Option Value → zSt → Prop}
theorem C_Mo_isQuery {y : Int32} (hM : tMo sh m) (hq : zi S m 4 = nI n) (hn : n < 2 ^ 31) : zD G m_Mo_isQuery 2 sh [.ref m, .int y] S (some (.int (zo (rg y n)))) S := by
  obtain ⟨m0, a1, a2, a3, a4, a5, a6, a7, a8, a9, a10, a11, a12, a13, a14, a15, a16, a22⟩ := id hM
  refine s_methD 0 ⟨p_Mo, rfl, Nat.le_of_ble_eq_true rfl⟩ rfl (fun sz => ?_)
  refine z_iload_n dX10_isQuery_0 rfl ?_
  refine z_iconst 0 dX10_isQuery_1 rfl ?_
  refine z_aload_n dX10_isQuery_2 rfl ?_
  refine s_geti f_Mo_114 dX10_isQuery_3 (by assumption) rfl ?_
  rw [hq]
  refine z_iconst 1 dX10_isQuery_6 rfl ?_
  refine z_isub dX10_isQuery_7 ?_
  refine s_callS1 l_Mo_63 (C_Mo_in0 (n := n) rfl hn) dX10_isQuery_8 rfl rfl (Nat.le_of_ble_eq_true rfl) ⟨⟨by decide, by decide⟩, by decide, by decide⟩ ?_
  refine z_ireturn dX10_isQuery_11 rfl zo_nar ⟨Nat.le_refl _, Nat.le_refl _⟩ ?_
  exact ⟨rfl, rfl, rfl⟩
theorem C_Mo_feed {y : Int32} (hM : tMo sh m) (hR : rMo S m w) (hW : wOK w) (h0 : ¬ rg y 128 = true → P (some (.int (-2))) S) (h1 : rg y 128 = true → 100 ≤ wL w → P (some (.int (-4))) S)
    (h2 : ∀ c S', c < 128 → y = nI c → wL w < 100 → frS S (inM m) S' → rMo S' m (wText w (wL w + 1) (gset (wtx w) (wL w) (nI c))) → P (some (.int (nI (wL w + 1)))) S') : zR G m_Mo_feed 2 sh [.ref m, .int y] S P := by
  obtain ⟨m0, a1, a2, a3, a4, a5, a6, a7, a8, a9, a10, a11, a12, a13, a14, a15, a16, a22⟩ := id hM
  obtain ⟨k1, k2, k3, ⟨k4, kr⟩, ⟨kL, ktx⟩, kt⟩ := id hR
  obtain ⟨g0, gi, ⟨g2, g2q⟩, ⟨g3, g3x⟩, g4⟩ := id hW
  obtain ⟨⟨b1, b2, b3, b4, b5⟩, ⟨e1, e2, e3, e4, e5⟩, eV, eM, eMo, eS, eB⟩ := id g0
  have hv : ∀ j, j < aN (wA w) → ∀ c, c < 4 → aV (wA w) j c < 16 := fun j hj c hc => (eV j hj c hc).2
  refine s_meth 0 ⟨p_Mo, rfl, Nat.le_of_ble_eq_true rfl⟩ rfl (fun sz => ?_)
  refine z_iload_n dX10_feed_0 rfl ?_
  refine z_iconst 0 dX10_feed_1 rfl ?_
  refine z_bipush 127 dX10_feed_2 (by decide) ?_
  refine s_callS1 l_Mo_63 (C_Mo_in0 (n := 128) (by decide) (by decide)) dX10_feed_4 rfl rfl (Nat.le_of_ble_eq_true rfl) ⟨⟨by decide, by decide⟩, by decide, by decide⟩ ?_
  refine z_if_ne 13 dX10_feed_7 (by decide) (fun c7 => ?_) (fun c7 => ?_)
  · refine z_aload_n dX10_feed_13 rfl ?_
    refine s_geti f_Mo_85 dX10_feed_14 (by assumption) rfl ?_
    refine z_bipush 100 dX10_feed_17 (by decide) ?_
    rw [kL]
    refine z_icmp_ne 25 dX10_feed_19 (by decide) (fun c19 => ?_) (fun c19 => ?_)
    · have hL : ¬ wL w = 100 := fun q => c19 (by rw [q]; rfl)
      obtain ⟨c, hc, rfl⟩ := rg_t (by decide) (zo_ne0.mp c7)
      refine z_aload_n dX10_feed_25 rfl ?_
      refine s_getr f_Mo_42 dX10_feed_26 (by assumption) rfl ?_
      refine z_aload_n dX10_feed_29 rfl ?_
      refine z_dup dX10_feed_30 rfl ?_
      refine s_geti f_Mo_85 dX10_feed_31 (by assumption) rfl ?_
      rw [kL]
      refine z_dup_x1 dX10_feed_34 rfl rfl ?_
      refine z_iconst 1 dX10_feed_35 rfl ?_
      refine z_iadd dX10_feed_36 ?_
      rw [nI_1]
      refine s_puti f_Mo_85 dX10_feed_37 (by assumption) rfl ⟨rfl, rfl⟩ ?_
      refine z_iload_n dX10_feed_40 rfl ?_
      refine s_iast dX10_feed_41 a11 (vp_in_nI (by omega) (by decide)) ?_
      rw [nI_clamp (by omega)]
      refine z_aload_n dX10_feed_42 rfl ?_
      refine s_geti f_Mo_85 dX10_feed_43 (by assumption) rfl ?_
      rw [show zi (zsa (zsi S m 13 (nI (wL w + 1))) (m + 11) (wL w) (nI c)) m 13 = nI (wL w + 1) from zi_si]
      refine z_ireturn dX10_feed_46 rfl rfl ⟨Nat.le_refl _, Nat.le_refl _⟩ ?_
      have f2 : frS S (fun b => b = m ∨ b = m + 11) (zsa (zsi S m 13 (nI (wL w + 1))) (m + 11) (wL w) (nI c)) := (frS.seti (Or.inl rfl)).trans (frS.seta (Or.inr rfl))
      have o : ∀ b, m < b → b ≠ m + 11 → ¬ (b = m ∨ b = m + 11) := fun b h1 h2 => by omega
      refine ⟨rfl, _, rfl, h2 c _ hc rfl (by omega) (f2.weaken (fun b hb => by unfold inM; omega)) (hR.upd (qs := w.2.2.1) (tx := (wL w + 1, gset (wtx w) (wL w) (nI c))) (ts := w.2.2.2.2) f2 ⟨by omega, by omega⟩ (zi_sik (by decide)) ⟨(zi_sik (by decide)).trans k4, fun k hk => ⟨(congrFun (f2 _ (o _ (by omega) (by omega))).2.2.1 k).trans (kr k hk).1, (kr k hk).2.fr f2 (fun b b1 b2 => o b (by omega) (by omega))⟩⟩ ⟨zi_si, fun i hi => ?_⟩ (fun t ht => ⟨(congrFun (f2 _ (o _ (by omega) (by omega))).2.2.1 t).trans (kt t ht).1, (congrFun (f2 _ (o _ (by omega) (by omega))).2.2.1 t).trans (kt t ht).2.1, fun i hi => (congrFun (f2 _ (o _ (by omega) (by omega))).2.2.2 i).trans ((kt t ht).2.2 i hi)⟩))⟩
      have hi : i < wL w + 1 := hi
      by_cases e : i = wL w
      · subst e; exact zup_same.trans gset_s.symm
      · exact (zup_ne (fun q => e q.2)).trans ((ktx i (by omega)).trans (gset_n e).symm)
    · have hL : wL w = 100 := (nI_eq (b := 100) (by omega) (by decide)).mp c19
      refine z_bipush (-4) dX10_feed_22 (by decide) ?_
      refine z_ireturn dX10_feed_24 rfl rfl ⟨Nat.le_refl _, Nat.le_refl _⟩ ?_
      exact ⟨rfl, _, rfl, h1 (zo_ne0.mp c7) (by omega)⟩
  · refine z_bipush (-2) dX10_feed_10 (by decide) ?_
    refine z_ireturn dX10_feed_12 rfl rfl ⟨Nat.le_refl _, Nat.le_refl _⟩ ?_
    exact ⟨rfl, _, rfl, h0 (fun q => zoT q c7)⟩
theorem frM3 {S : zSt} {a k1 k2 k3 : Nat} {u1 u2 u3 : Int32} {P : Nat → Prop} (h : P a) : frS S P (zsa (zsa (zsa S a k1 u1) a k2 u2) a k3 u3) := ((frS.seta h).trans (frS.seta h)).trans (frS.seta h)
theorem C_Mo_see {p q : Int32} (hM : tMo sh m) (hR : rMo S m w) (hW : wOK w) (hc : ∀ S', p = -1 → frS S (inM m) S' → rMo S' m (wNow w (aSee (wA w) 0) (gset (wg w) 492 0)) → P (some (.int 0)) S')
    (h0 : ¬ p = -1 → ¬ rg p (aN (wA w)) = true → P (some (.int (-1))) S) (h1 : ¬ p = -1 → rg p (aN (wA w)) = true → aS (wA w) = 6 → P (some (.int (-4))) S)
    (h2 : ∀ Y S', ¬ p = -1 → rg p (aN (wA w)) = true → aS (wA w) < 6 → Y = (if q = 0 then 0 else 1) → frS S (inM m) S' → rMo S' m (wNow w (aSee (wA w) (aS (wA w) + 1)) (gTold (wg w) 493 (aS (wA w)) p Y)) → P (some (.int (nI (aS (wA w) + 1)))) S') : zR G m_Mo_see 3 sh [.ref m, .int p, .int q] S P := by
  obtain ⟨m0, a1, a2, a3, a4, a5, a6, a7, a8, a9, a10, a11, a12, a13, a14, a15, a16, a22⟩ := id hM
  obtain ⟨k1, k2, k3, ⟨k4, kr⟩, ⟨kL, ktx⟩, kt⟩ := id hR
  obtain ⟨g0, gi, ⟨g2, g2q⟩, ⟨g3, g3x⟩, g4⟩ := id hW
  obtain ⟨⟨b1, b2, b3, b4, b5⟩, ⟨e1, e2, e3, e4, e5⟩, eV, eM, eMo, eS, eB⟩ := id g0
  have hv : ∀ j, j < aN (wA w) → ∀ c, c < 4 → aV (wA w) j c < 16 := fun j hj c hc => (eV j hj c hc).2
  have gr := hR.gr hW
  have gs := (k1 492 (by decide)).trans e3
  refine s_meth 0 ⟨p_Mo, rfl, Nat.le_of_ble_eq_true rfl⟩ rfl (fun sz => ?_)
  refine z_iload_n dX10_see_0 rfl ?_
  refine z_iconst (-1) dX10_see_1 rfl ?_
  refine z_icmp_ne 16 dX10_see_2 (by decide) (fun c2 => ?_) (fun c2 => ?_)
  · refine z_aload_n dX10_see_16 rfl ?_
    refine z_iload_n dX10_see_17 rfl ?_
    refine s_callV1 l_Mo_71 (C_Mo_isRow hM gr.1 (by omega)) m0 dX10_see_18 rfl rfl (Nat.le_of_ble_eq_true rfl) ⟨⟨by decide, by decide⟩, by decide, by decide⟩ ?_
    refine z_if_ne 26 dX10_see_21 (by decide) (fun c21 => ?_) (fun c21 => ?_)
    · refine z_aload_n dX10_see_26 rfl ?_
      refine s_getr f_Mo_11 dX10_see_27 (by assumption) rfl ?_
      refine z_sipush 492 dX10_see_30 (by decide) ?_
      refine s_iald dX10_see_33 (by assumption) (by first | assumption | exact vp_in_nI (by omega) (by omega) | (unfold vp_in; decide)) ?_
      refine z_bipush 6 dX10_see_34 (by decide) ?_
      rw [show (492 : Int32).toNatClampNeg = 492 from rfl, gs]
      refine z_icmp_ne 42 dX10_see_36 (by decide) (fun c36 => ?_) (fun c36 => ?_)
      · have hs : ¬ aS (wA w) = 6 := fun q => c36 (by rw [q]; rfl)
        refine z_aload_n dX10_see_42 rfl ?_
        refine s_getr f_Mo_11 dX10_see_43 (by assumption) rfl ?_
        refine z_sipush 493 dX10_see_46 (by decide) ?_
        refine z_iconst 2 dX10_see_49 rfl ?_
        refine z_aload_n dX10_see_50 rfl ?_
        refine s_getr f_Mo_11 dX10_see_51 (by assumption) rfl ?_
        refine z_sipush 492 dX10_see_54 (by decide) ?_
        refine s_iald dX10_see_57 (by assumption) (by first | assumption | exact vp_in_nI (by omega) (by omega) | (unfold vp_in; decide)) ?_
        rw [show (492 : Int32).toNatClampNeg = 492 from rfl, gs]
        refine z_imul dX10_see_58 ?_
        refine z_iadd dX10_see_59 ?_
        rw [nI21, show (493 : Int32) = nI 493 from rfl, nI_add]
        refine z_iload_n dX10_see_60 rfl ?_
        refine s_iast dX10_see_61 a1 (vp_in_nI (by omega) (by decide)) ?_
        rw [nI_clamp (by omega)]
        refine z_aload_n dX10_see_62 rfl ?_
        refine s_getr f_Mo_11 dX10_see_63 (by assumption) rfl ?_
        refine z_sipush 493 dX10_see_66 (by decide) ?_
        refine z_iconst 2 dX10_see_69 rfl ?_
        refine z_aload_n dX10_see_70 rfl ?_
        refine s_getr f_Mo_11 dX10_see_71 (by assumption) rfl ?_
        refine z_sipush 492 dX10_see_74 (by decide) ?_
        refine s_iald dX10_see_77 (by assumption) (by first | assumption | exact vp_in_nI (by omega) (by omega) | (unfold vp_in; decide)) ?_
        rw [show (492 : Int32).toNatClampNeg = 492 from rfl, za_san (by omega), gs]
        refine z_imul dX10_see_78 ?_
        refine z_iadd dX10_see_79 ?_
        rw [nI21, show (493 : Int32) = nI 493 from rfl, nI_add]
        refine z_iconst 1 dX10_see_80 rfl ?_
        refine z_iadd dX10_see_81 ?_
        rw [nI_1]
        refine z_iload_n dX10_see_82 rfl ?_
        refine z_if_eq 90 dX10_see_83 (by decide) (fun c83 => ?_) (fun c83 => ?_)
        · have hY : (0 : Int32) = (if q = 0 then 0 else 1) := (if_pos c83).symm
          refine z_iconst 0 dX10_see_90 rfl ?_
          refine s_iast dX10_see_91 a1 (vp_in_nI (by omega) (by decide)) ?_
          rw [nI_clamp (by omega)]
          refine z_aload_n dX10_see_92 rfl ?_
          refine s_getr f_Mo_11 dX10_see_93 (by assumption) rfl ?_
          refine z_sipush 492 dX10_see_96 (by decide) ?_
          refine z_dup2 dX10_see_99 rfl rfl ?_
          refine s_iald dX10_see_100 (by assumption) (by first | assumption | exact vp_in_nI (by omega) (by omega) | (unfold vp_in; decide)) ?_
          rw [show (492 : Int32).toNatClampNeg = 492 from rfl, za_san (by omega), za_san (by omega), gs]
          refine z_iconst 1 dX10_see_101 rfl ?_
          refine z_iadd dX10_see_102 ?_
          rw [nI_1]
          refine s_iast dX10_see_103 (by assumption) (by first | assumption | exact vp_in_nI (by omega) (by omega) | (unfold vp_in; decide)) ?_
          refine z_aload_n dX10_see_104 rfl ?_
          refine s_getr f_Mo_11 dX10_see_105 (by assumption) rfl ?_
          refine z_sipush 492 dX10_see_108 (by decide) ?_
          refine s_iald dX10_see_111 (by assumption) (by first | assumption | exact vp_in_nI (by omega) (by omega) | (unfold vp_in; decide)) ?_
          rw [show (492 : Int32).toNatClampNeg = 492 from rfl, za_sa]
          refine z_ireturn dX10_see_112 rfl rfl ⟨Nat.le_refl _, Nat.le_refl _⟩ ?_
          exact ⟨rfl, _, rfl, h2 _ _ c2 (zo_ne0.mp c21) (by omega) hY (frM3 inM1) (hR.now (P := fun b => b = m + 1) (frM3 rfl) (fun b p1 p2 p3 p4 p5 p6 => p3) (za_gset (za_gset (za_gset k1))))⟩
        · have hY : (1 : Int32) = (if q = 0 then 0 else 1) := (if_neg c83).symm
          refine z_iconst 1 dX10_see_86 rfl ?_
          refine z_goto 91 dX10_see_87 (by decide) ?_
          refine s_iast dX10_see_91 a1 (vp_in_nI (by omega) (by decide)) ?_
          rw [nI_clamp (by omega)]
          refine z_aload_n dX10_see_92 rfl ?_
          refine s_getr f_Mo_11 dX10_see_93 (by assumption) rfl ?_
          refine z_sipush 492 dX10_see_96 (by decide) ?_
          refine z_dup2 dX10_see_99 rfl rfl ?_
          refine s_iald dX10_see_100 (by assumption) (by first | assumption | exact vp_in_nI (by omega) (by omega) | (unfold vp_in; decide)) ?_
          rw [show (492 : Int32).toNatClampNeg = 492 from rfl, za_san (by omega), za_san (by omega), gs]
          refine z_iconst 1 dX10_see_101 rfl ?_
          refine z_iadd dX10_see_102 ?_
          rw [nI_1]
          refine s_iast dX10_see_103 (by assumption) (by first | assumption | exact vp_in_nI (by omega) (by omega) | (unfold vp_in; decide)) ?_
          refine z_aload_n dX10_see_104 rfl ?_
          refine s_getr f_Mo_11 dX10_see_105 (by assumption) rfl ?_
          refine z_sipush 492 dX10_see_108 (by decide) ?_
          refine s_iald dX10_see_111 (by assumption) (by first | assumption | exact vp_in_nI (by omega) (by omega) | (unfold vp_in; decide)) ?_
          rw [show (492 : Int32).toNatClampNeg = 492 from rfl, za_sa]
          refine z_ireturn dX10_see_112 rfl rfl ⟨Nat.le_refl _, Nat.le_refl _⟩ ?_
          exact ⟨rfl, _, rfl, h2 _ _ c2 (zo_ne0.mp c21) (by omega) hY (frM3 inM1) (hR.now (P := fun b => b = m + 1) (frM3 rfl) (fun b p1 p2 p3 p4 p5 p6 => p3) (za_gset (za_gset (za_gset k1))))⟩
      · have hs : aS (wA w) = 6 := (nI_eq (b := 6) (by omega) (by decide)).mp c36
        refine z_bipush (-4) dX10_see_39 (by decide) ?_
        refine z_ireturn dX10_see_41 rfl rfl ⟨Nat.le_refl _, Nat.le_refl _⟩ ?_
        exact ⟨rfl, _, rfl, h1 c2 (zo_ne0.mp c21) hs⟩
    · refine z_iconst (-1) dX10_see_24 rfl ?_
      refine z_ireturn dX10_see_25 rfl rfl ⟨Nat.le_refl _, Nat.le_refl _⟩ ?_
      exact ⟨rfl, _, rfl, h0 c2 (fun q => zoT q c21)⟩
  · refine z_aload_n dX10_see_5 rfl ?_
    refine s_getr f_Mo_11 dX10_see_6 (by assumption) rfl ?_
    refine z_sipush 492 dX10_see_9 (by decide) ?_
    refine z_iconst 0 dX10_see_12 rfl ?_
    refine s_iast dX10_see_13 (by assumption) (by first | assumption | exact vp_in_nI (by omega) (by omega) | (unfold vp_in; decide)) ?_
    refine z_iconst 0 dX10_see_14 rfl ?_
    refine z_ireturn dX10_see_15 rfl rfl ⟨Nat.le_refl _, Nat.le_refl _⟩ ?_
    exact ⟨rfl, _, rfl, hc _ c2 (frS.seta inM1) (hR.now (P := fun b => b = m + 1) (frS.seta rfl) (fun b p1 p2 p3 p4 p5 p6 => p3) (za_gset k1))⟩
theorem C_Mo_plan {p q : Int32} (hM : tMo sh m) (hR : rMo S m w) (hW : wOK w) (hc : ∀ S', p = -1 → frS S (inM m) S' → rMo S' m (wNow w (aPlan (wA w) 0) (gset (wg w) 505 0)) → P (some (.int 0)) S')
    (h0 : ¬ p = -1 → ¬ vPlan w p q → P (some (.int (-1))) S) (h1 : ¬ p = -1 → vPlan w p q → aP (wA w) = 10 → P (some (.int (-4))) S)
    (h2 : ∀ S', ¬ p = -1 → vPlan w p q → aP (wA w) < 10 → frS S (inM m) S' → rMo S' m (wNow w (aPlan (wA w) (aP (wA w) + 1)) (gTold (wg w) 506 (aP (wA w)) p q)) → P (some (.int (nI (aP (wA w) + 1)))) S') : zR G m_Mo_plan 3 sh [.ref m, .int p, .int q] S P := by
  obtain ⟨m0, a1, a2, a3, a4, a5, a6, a7, a8, a9, a10, a11, a12, a13, a14, a15, a16, a22⟩ := id hM
  obtain ⟨k1, k2, k3, ⟨k4, kr⟩, ⟨kL, ktx⟩, kt⟩ := id hR
  obtain ⟨g0, gi, ⟨g2, g2q⟩, ⟨g3, g3x⟩, g4⟩ := id hW
  obtain ⟨⟨b1, b2, b3, b4, b5⟩, ⟨e1, e2, e3, e4, e5⟩, eV, eM, eMo, eS, eB⟩ := id g0
  have hv : ∀ j, j < aN (wA w) → ∀ c, c < 4 → aV (wA w) j c < 16 := fun j hj c hc => (eV j hj c hc).2
  have gr := hR.gr hW
  have gm := (k1 481 (by decide)).trans e2
  have gs := (k1 505 (by decide)).trans e4
  refine s_meth 0 ⟨p_Mo, rfl, Nat.le_of_ble_eq_true rfl⟩ rfl (fun sz => ?_)
  have fin : ¬ p = -1 → vPlan w p q → zW G m_Mo_plan (zRm 3 0 0) (zFm G (zP sh sz P) 0 0) 0 0 63 [some (.ref m), some (.int p), some (.int q)] [] (zhp sh S) sz := by
    intro hp hv
    refine z_aload_n dX10_plan_63 rfl ?_
    refine s_getr f_Mo_11 dX10_plan_64 (by assumption) rfl ?_
    refine z_sipush 505 dX10_plan_67 (by decide) ?_
    refine s_iald dX10_plan_70 (by assumption) (by first | assumption | exact vp_in_nI (by omega) (by omega) | (unfold vp_in; decide)) ?_
    refine z_bipush 10 dX10_plan_71 (by decide) ?_
    rw [show (505 : Int32).toNatClampNeg = 505 from rfl, gs]
    refine z_icmp_ne 79 dX10_plan_73 (by decide) (fun c73 => ?_) (fun c73 => ?_)
    · have hs : ¬ aP (wA w) = 10 := fun q => c73 (by rw [q]; rfl)
      refine z_aload_n dX10_plan_79 rfl ?_
      refine s_getr f_Mo_11 dX10_plan_80 (by assumption) rfl ?_
      refine z_sipush 506 dX10_plan_83 (by decide) ?_
      refine z_iconst 2 dX10_plan_86 rfl ?_
      refine z_aload_n dX10_plan_87 rfl ?_
      refine s_getr f_Mo_11 dX10_plan_88 (by assumption) rfl ?_
      refine z_sipush 505 dX10_plan_91 (by decide) ?_
      refine s_iald dX10_plan_94 (by assumption) (by first | assumption | exact vp_in_nI (by omega) (by omega) | (unfold vp_in; decide)) ?_
      rw [show (505 : Int32).toNatClampNeg = 505 from rfl, gs]
      refine z_imul dX10_plan_95 ?_
      refine z_iadd dX10_plan_96 ?_
      rw [nI21, show (506 : Int32) = nI 506 from rfl, nI_add]
      refine z_iload_n dX10_plan_97 rfl ?_
      refine s_iast dX10_plan_98 a1 (vp_in_nI (by omega) (by decide)) ?_
      rw [nI_clamp (by omega)]
      refine z_aload_n dX10_plan_99 rfl ?_
      refine s_getr f_Mo_11 dX10_plan_100 (by assumption) rfl ?_
      refine z_sipush 506 dX10_plan_103 (by decide) ?_
      refine z_iconst 2 dX10_plan_106 rfl ?_
      refine z_aload_n dX10_plan_107 rfl ?_
      refine s_getr f_Mo_11 dX10_plan_108 (by assumption) rfl ?_
      refine z_sipush 505 dX10_plan_111 (by decide) ?_
      refine s_iald dX10_plan_114 (by assumption) (by first | assumption | exact vp_in_nI (by omega) (by omega) | (unfold vp_in; decide)) ?_
      rw [show (505 : Int32).toNatClampNeg = 505 from rfl, za_san (by omega), gs]
      refine z_imul dX10_plan_115 ?_
      refine z_iadd dX10_plan_116 ?_
      rw [nI21, show (506 : Int32) = nI 506 from rfl, nI_add]
      refine z_iconst 1 dX10_plan_117 rfl ?_
      refine z_iadd dX10_plan_118 ?_
      rw [nI_1]
      refine z_iload_n dX10_plan_119 rfl ?_
      refine s_iast dX10_plan_120 a1 (vp_in_nI (by omega) (by decide)) ?_
      rw [nI_clamp (by omega)]
      refine z_aload_n dX10_plan_121 rfl ?_
      refine s_getr f_Mo_11 dX10_plan_122 (by assumption) rfl ?_
      refine z_sipush 505 dX10_plan_125 (by decide) ?_
      refine z_dup2 dX10_plan_128 rfl rfl ?_
      refine s_iald dX10_plan_129 (by assumption) (by first | assumption | exact vp_in_nI (by omega) (by omega) | (unfold vp_in; decide)) ?_
      rw [show (505 : Int32).toNatClampNeg = 505 from rfl, za_san (by omega), za_san (by omega), gs]
      refine z_iconst 1 dX10_plan_130 rfl ?_
      refine z_iadd dX10_plan_131 ?_
      rw [nI_1]
      refine s_iast dX10_plan_132 (by assumption) (by first | assumption | exact vp_in_nI (by omega) (by omega) | (unfold vp_in; decide)) ?_
      refine z_aload_n dX10_plan_133 rfl ?_
      refine s_getr f_Mo_11 dX10_plan_134 (by assumption) rfl ?_
      refine z_sipush 505 dX10_plan_137 (by decide) ?_
      refine s_iald dX10_plan_140 (by assumption) (by first | assumption | exact vp_in_nI (by omega) (by omega) | (unfold vp_in; decide)) ?_
      rw [show (505 : Int32).toNatClampNeg = 505 from rfl, za_sa]
      refine z_ireturn dX10_plan_141 rfl rfl ⟨Nat.le_refl _, Nat.le_refl _⟩ ?_
      exact ⟨rfl, _, rfl, h2 _ hp hv (by omega) (frM3 inM1) (hR.now (P := fun b => b = m + 1) (frM3 rfl) (fun b p1 p2 p3 p4 p5 p6 => p3) (za_gset (za_gset (za_gset k1))))⟩
    · have hs : aP (wA w) = 10 := (nI_eq (b := 10) (by omega) (by decide)).mp c73
      refine z_bipush (-4) dX10_plan_76 (by decide) ?_
      refine z_ireturn dX10_plan_78 rfl rfl ⟨Nat.le_refl _, Nat.le_refl _⟩ ?_
      exact ⟨rfl, _, rfl, h1 hp hv hs⟩
  refine z_iload_n dX10_plan_0 rfl ?_
  refine z_iconst (-1) dX10_plan_1 rfl ?_
  refine z_icmp_ne 16 dX10_plan_2 (by decide) (fun c2 => ?_) (fun c2 => ?_)
  · refine z_iload_n dX10_plan_16 rfl ?_
    refine z_iconst 0 dX10_plan_17 rfl ?_
    refine z_iconst 2 dX10_plan_18 rfl ?_
    refine s_callS1 l_Mo_63 (C_Mo_in0 (n := 3) (by decide) (by decide)) dX10_plan_19 rfl rfl (Nat.le_of_ble_eq_true rfl) ⟨⟨by decide, by decide⟩, by decide, by decide⟩ ?_
    refine z_if_eq 61 dX10_plan_22 (by decide) (fun c22 => ?_) (fun c22 => ?_)
    · refine z_iconst (-1) dX10_plan_61 rfl ?_
      refine z_ireturn dX10_plan_62 rfl rfl ⟨Nat.le_refl _, Nat.le_refl _⟩ ?_
      first
        | exact ⟨rfl, _, rfl, h0 c2 (fun z => zoT z.1 c22)⟩
        | exact ⟨rfl, _, rfl, h0 c2 (fun z => zoT (z.2.1 c27) c35)⟩
        | exact ⟨rfl, _, rfl, h0 c2 (fun z => zoT (z.2.2 c40) c58)⟩
        | skip
    · refine z_iload_n dX10_plan_25 rfl ?_
      refine z_iconst 1 dX10_plan_26 rfl ?_
      refine z_icmp_ne 38 dX10_plan_27 (by decide) (fun c27 => ?_) (fun c27 => ?_)
      · refine z_iload_n dX10_plan_38 rfl ?_
        refine z_iconst 2 dX10_plan_39 rfl ?_
        refine z_icmp_ne 63 dX10_plan_40 (by decide) (fun c40 => ?_) (fun c40 => ?_)
        · first
            | exact fin c2 ⟨zo_ne0.mp c22, fun _ => zo_ne0.mp c35, fun _ => zo_ne0.mp c58⟩
            | exact fin c2 ⟨zo_ne0.mp c22, fun _ => zo_ne0.mp c35, fun q => absurd q c40⟩
            | exact fin c2 ⟨zo_ne0.mp c22, fun q => absurd q c27, fun _ => zo_ne0.mp c58⟩
            | exact fin c2 ⟨zo_ne0.mp c22, fun q => absurd q c27, fun q => absurd q c40⟩
            | skip
        · refine z_iload_n dX10_plan_43 rfl ?_
          refine z_iconst 0 dX10_plan_44 rfl ?_
          refine z_aload_n dX10_plan_45 rfl ?_
          refine s_getr f_Mo_11 dX10_plan_46 (by assumption) rfl ?_
          refine z_sipush 481 dX10_plan_49 (by decide) ?_
          refine s_iald dX10_plan_52 (by assumption) (by first | assumption | exact vp_in_nI (by omega) (by omega) | (unfold vp_in; decide)) ?_
          rw [show (481 : Int32).toNatClampNeg = 481 from rfl, gm]
          refine z_iconst 1 dX10_plan_53 rfl ?_
          refine z_isub dX10_plan_54 ?_
          refine s_callS1 l_Mo_63 (C_Mo_in0 (n := aM (wA w)) rfl (by omega)) dX10_plan_55 rfl rfl (Nat.le_of_ble_eq_true rfl) ⟨⟨by decide, by decide⟩, by decide, by decide⟩ ?_
          refine z_if_ne 63 dX10_plan_58 (by decide) (fun c58 => ?_) (fun c58 => ?_)
          · first
              | exact fin c2 ⟨zo_ne0.mp c22, fun _ => zo_ne0.mp c35, fun _ => zo_ne0.mp c58⟩
              | exact fin c2 ⟨zo_ne0.mp c22, fun _ => zo_ne0.mp c35, fun q => absurd q c40⟩
              | exact fin c2 ⟨zo_ne0.mp c22, fun q => absurd q c27, fun _ => zo_ne0.mp c58⟩
              | exact fin c2 ⟨zo_ne0.mp c22, fun q => absurd q c27, fun q => absurd q c40⟩
              | skip
          · refine z_iconst (-1) dX10_plan_61 rfl ?_
            refine z_ireturn dX10_plan_62 rfl rfl ⟨Nat.le_refl _, Nat.le_refl _⟩ ?_
            first
              | exact ⟨rfl, _, rfl, h0 c2 (fun z => zoT z.1 c22)⟩
              | exact ⟨rfl, _, rfl, h0 c2 (fun z => zoT (z.2.1 c27) c35)⟩
              | exact ⟨rfl, _, rfl, h0 c2 (fun z => zoT (z.2.2 c40) c58)⟩
              | skip
      · refine z_aload_n dX10_plan_30 rfl ?_
        refine z_iload_n dX10_plan_31 rfl ?_
        refine s_callV1 l_Mo_71 (C_Mo_isRow hM gr.1 (by omega)) m0 dX10_plan_32 rfl rfl (Nat.le_of_ble_eq_true rfl) ⟨⟨by decide, by decide⟩, by decide, by decide⟩ ?_
        refine z_if_eq 61 dX10_plan_35 (by decide) (fun c35 => ?_) (fun c35 => ?_)
        · refine z_iconst (-1) dX10_plan_61 rfl ?_
          refine z_ireturn dX10_plan_62 rfl rfl ⟨Nat.le_refl _, Nat.le_refl _⟩ ?_
          first
            | exact ⟨rfl, _, rfl, h0 c2 (fun z => zoT z.1 c22)⟩
            | exact ⟨rfl, _, rfl, h0 c2 (fun z => zoT (z.2.1 c27) c35)⟩
            | exact ⟨rfl, _, rfl, h0 c2 (fun z => zoT (z.2.2 c40) c58)⟩
            | skip
        · refine z_iload_n dX10_plan_38 rfl ?_
          refine z_iconst 2 dX10_plan_39 rfl ?_
          refine z_icmp_ne 63 dX10_plan_40 (by decide) (fun c40 => ?_) (fun c40 => ?_)
          · first
              | exact fin c2 ⟨zo_ne0.mp c22, fun _ => zo_ne0.mp c35, fun _ => zo_ne0.mp c58⟩
              | exact fin c2 ⟨zo_ne0.mp c22, fun _ => zo_ne0.mp c35, fun q => absurd q c40⟩
              | exact fin c2 ⟨zo_ne0.mp c22, fun q => absurd q c27, fun _ => zo_ne0.mp c58⟩
              | exact fin c2 ⟨zo_ne0.mp c22, fun q => absurd q c27, fun q => absurd q c40⟩
              | skip
          · refine z_iload_n dX10_plan_43 rfl ?_
            refine z_iconst 0 dX10_plan_44 rfl ?_
            refine z_aload_n dX10_plan_45 rfl ?_
            refine s_getr f_Mo_11 dX10_plan_46 (by assumption) rfl ?_
            refine z_sipush 481 dX10_plan_49 (by decide) ?_
            refine s_iald dX10_plan_52 (by assumption) (by first | assumption | exact vp_in_nI (by omega) (by omega) | (unfold vp_in; decide)) ?_
            rw [show (481 : Int32).toNatClampNeg = 481 from rfl, gm]
            refine z_iconst 1 dX10_plan_53 rfl ?_
            refine z_isub dX10_plan_54 ?_
            refine s_callS1 l_Mo_63 (C_Mo_in0 (n := aM (wA w)) rfl (by omega)) dX10_plan_55 rfl rfl (Nat.le_of_ble_eq_true rfl) ⟨⟨by decide, by decide⟩, by decide, by decide⟩ ?_
            refine z_if_ne 63 dX10_plan_58 (by decide) (fun c58 => ?_) (fun c58 => ?_)
            · first
                | exact fin c2 ⟨zo_ne0.mp c22, fun _ => zo_ne0.mp c35, fun _ => zo_ne0.mp c58⟩
                | exact fin c2 ⟨zo_ne0.mp c22, fun _ => zo_ne0.mp c35, fun q => absurd q c40⟩
                | exact fin c2 ⟨zo_ne0.mp c22, fun q => absurd q c27, fun _ => zo_ne0.mp c58⟩
                | exact fin c2 ⟨zo_ne0.mp c22, fun q => absurd q c27, fun q => absurd q c40⟩
                | skip
            · refine z_iconst (-1) dX10_plan_61 rfl ?_
              refine z_ireturn dX10_plan_62 rfl rfl ⟨Nat.le_refl _, Nat.le_refl _⟩ ?_
              first
                | exact ⟨rfl, _, rfl, h0 c2 (fun z => zoT z.1 c22)⟩
                | exact ⟨rfl, _, rfl, h0 c2 (fun z => zoT (z.2.1 c27) c35)⟩
                | exact ⟨rfl, _, rfl, h0 c2 (fun z => zoT (z.2.2 c40) c58)⟩
                | skip
  · refine z_aload_n dX10_plan_5 rfl ?_
    refine s_getr f_Mo_11 dX10_plan_6 (by assumption) rfl ?_
    refine z_sipush 505 dX10_plan_9 (by decide) ?_
    refine z_iconst 0 dX10_plan_12 rfl ?_
    refine s_iast dX10_plan_13 (by assumption) (by first | assumption | exact vp_in_nI (by omega) (by omega) | (unfold vp_in; decide)) ?_
    refine z_iconst 0 dX10_plan_14 rfl ?_
    refine z_ireturn dX10_plan_15 rfl rfl ⟨Nat.le_refl _, Nat.le_refl _⟩ ?_
    exact ⟨rfl, _, rfl, hc _ c2 (frS.seta inM1) (hR.now (P := fun b => b = m + 1) (frS.seta rfl) (fun b p1 p2 p3 p4 p5 p6 => p3) (za_gset k1))⟩
theorem C_Mo_book {p q : Int32} (hM : tMo sh m) (hR : rMo S m w) (hW : wOK w) (hc : ∀ S', p = -1 → frS S (inM m) S' → rMo S' m (wNow w (aBook (wA w) 0) (gset (wg w) 526 0)) → P (some (.int 0)) S')
    (h0 : ¬ p = -1 → ¬ rg p (wq w) = true → P (some (.int (-1))) S) (hb : ¬ p = -1 → rg p (wq w) = true → ¬ rg q 121 = true → P (some (.int (-2))) S) (h1 : ¬ p = -1 → rg p (wq w) = true → rg q 121 = true → aB (wA w) = 8 → P (some (.int (-4))) S)
    (h2 : ∀ S', ¬ p = -1 → rg p (wq w) = true → rg q 121 = true → aB (wA w) < 8 → frS S (inM m) S' → rMo S' m (wNow w (aBook (wA w) (aB (wA w) + 1)) (gTold (wg w) 527 (aB (wA w)) p q)) → P (some (.int (nI (aB (wA w) + 1)))) S') : zR G m_Mo_book 3 sh [.ref m, .int p, .int q] S P := by
  obtain ⟨m0, a1, a2, a3, a4, a5, a6, a7, a8, a9, a10, a11, a12, a13, a14, a15, a16, a22⟩ := id hM
  obtain ⟨k1, k2, k3, ⟨k4, kr⟩, ⟨kL, ktx⟩, kt⟩ := id hR
  obtain ⟨g0, gi, ⟨g2, g2q⟩, ⟨g3, g3x⟩, g4⟩ := id hW
  obtain ⟨⟨b1, b2, b3, b4, b5⟩, ⟨e1, e2, e3, e4, e5⟩, eV, eM, eMo, eS, eB⟩ := id g0
  have hv : ∀ j, j < aN (wA w) → ∀ c, c < 4 → aV (wA w) j c < 16 := fun j hj c hc => (eV j hj c hc).2
  have gs := (k1 526 (by decide)).trans e5
  refine s_meth 0 ⟨p_Mo, rfl, Nat.le_of_ble_eq_true rfl⟩ rfl (fun sz => ?_)
  refine z_iload_n dX10_book_0 rfl ?_
  refine z_iconst (-1) dX10_book_1 rfl ?_
  refine z_icmp_ne 16 dX10_book_2 (by decide) (fun c2 => ?_) (fun c2 => ?_)
  · refine z_aload_n dX10_book_16 rfl ?_
    refine z_iload_n dX10_book_17 rfl ?_
    refine s_callV1 l_Mo_163 (C_Mo_isQuery hM k4 (by omega)) m0 dX10_book_18 rfl rfl (Nat.le_of_ble_eq_true rfl) ⟨⟨by decide, by decide⟩, by decide, by decide⟩ ?_
    refine z_if_ne 26 dX10_book_21 (by decide) (fun c21 => ?_) (fun c21 => ?_)
    · refine z_iload_n dX10_book_26 rfl ?_
      refine z_iconst 0 dX10_book_27 rfl ?_
      refine z_bipush 120 dX10_book_28 (by decide) ?_
      refine s_callS1 l_Mo_63 (C_Mo_in0 (n := 121) (by decide) (by decide)) dX10_book_30 rfl rfl (Nat.le_of_ble_eq_true rfl) ⟨⟨by decide, by decide⟩, by decide, by decide⟩ ?_
      refine z_if_ne 39 dX10_book_33 (by decide) (fun c33 => ?_) (fun c33 => ?_)
      · refine z_aload_n dX10_book_39 rfl ?_
        refine s_getr f_Mo_11 dX10_book_40 (by assumption) rfl ?_
        refine z_sipush 526 dX10_book_43 (by decide) ?_
        refine s_iald dX10_book_46 (by assumption) (by first | assumption | exact vp_in_nI (by omega) (by omega) | (unfold vp_in; decide)) ?_
        refine z_bipush 8 dX10_book_47 (by decide) ?_
        rw [show (526 : Int32).toNatClampNeg = 526 from rfl, gs]
        refine z_icmp_ne 55 dX10_book_49 (by decide) (fun c49 => ?_) (fun c49 => ?_)
        · have hs : ¬ aB (wA w) = 8 := fun q => c49 (by rw [q]; rfl)
          refine z_aload_n dX10_book_55 rfl ?_
          refine s_getr f_Mo_11 dX10_book_56 (by assumption) rfl ?_
          refine z_sipush 527 dX10_book_59 (by decide) ?_
          refine z_iconst 2 dX10_book_62 rfl ?_
          refine z_aload_n dX10_book_63 rfl ?_
          refine s_getr f_Mo_11 dX10_book_64 (by assumption) rfl ?_
          refine z_sipush 526 dX10_book_67 (by decide) ?_
          refine s_iald dX10_book_70 (by assumption) (by first | assumption | exact vp_in_nI (by omega) (by omega) | (unfold vp_in; decide)) ?_
          rw [show (526 : Int32).toNatClampNeg = 526 from rfl, gs]
          refine z_imul dX10_book_71 ?_
          refine z_iadd dX10_book_72 ?_
          rw [nI21, show (527 : Int32) = nI 527 from rfl, nI_add]
          refine z_iload_n dX10_book_73 rfl ?_
          refine s_iast dX10_book_74 a1 (vp_in_nI (by omega) (by decide)) ?_
          rw [nI_clamp (by omega)]
          refine z_aload_n dX10_book_75 rfl ?_
          refine s_getr f_Mo_11 dX10_book_76 (by assumption) rfl ?_
          refine z_sipush 527 dX10_book_79 (by decide) ?_
          refine z_iconst 2 dX10_book_82 rfl ?_
          refine z_aload_n dX10_book_83 rfl ?_
          refine s_getr f_Mo_11 dX10_book_84 (by assumption) rfl ?_
          refine z_sipush 526 dX10_book_87 (by decide) ?_
          refine s_iald dX10_book_90 (by assumption) (by first | assumption | exact vp_in_nI (by omega) (by omega) | (unfold vp_in; decide)) ?_
          rw [show (526 : Int32).toNatClampNeg = 526 from rfl, za_san (by omega), gs]
          refine z_imul dX10_book_91 ?_
          refine z_iadd dX10_book_92 ?_
          rw [nI21, show (527 : Int32) = nI 527 from rfl, nI_add]
          refine z_iconst 1 dX10_book_93 rfl ?_
          refine z_iadd dX10_book_94 ?_
          rw [nI_1]
          refine z_iload_n dX10_book_95 rfl ?_
          refine s_iast dX10_book_96 a1 (vp_in_nI (by omega) (by decide)) ?_
          rw [nI_clamp (by omega)]
          refine z_aload_n dX10_book_97 rfl ?_
          refine s_getr f_Mo_11 dX10_book_98 (by assumption) rfl ?_
          refine z_sipush 526 dX10_book_101 (by decide) ?_
          refine z_dup2 dX10_book_104 rfl rfl ?_
          refine s_iald dX10_book_105 (by assumption) (by first | assumption | exact vp_in_nI (by omega) (by omega) | (unfold vp_in; decide)) ?_
          rw [show (526 : Int32).toNatClampNeg = 526 from rfl, za_san (by omega), za_san (by omega), gs]
          refine z_iconst 1 dX10_book_106 rfl ?_
          refine z_iadd dX10_book_107 ?_
          rw [nI_1]
          refine s_iast dX10_book_108 (by assumption) (by first | assumption | exact vp_in_nI (by omega) (by omega) | (unfold vp_in; decide)) ?_
          refine z_aload_n dX10_book_109 rfl ?_
          refine s_getr f_Mo_11 dX10_book_110 (by assumption) rfl ?_
          refine z_sipush 526 dX10_book_113 (by decide) ?_
          refine s_iald dX10_book_116 (by assumption) (by first | assumption | exact vp_in_nI (by omega) (by omega) | (unfold vp_in; decide)) ?_
          rw [show (526 : Int32).toNatClampNeg = 526 from rfl, za_sa]
          refine z_ireturn dX10_book_117 rfl rfl ⟨Nat.le_refl _, Nat.le_refl _⟩ ?_
          exact ⟨rfl, _, rfl, h2 _ c2 (zo_ne0.mp c21) (zo_ne0.mp c33) (by omega) (frM3 inM1) (hR.now (P := fun b => b = m + 1) (frM3 rfl) (fun b p1 p2 p3 p4 p5 p6 => p3) (za_gset (za_gset (za_gset k1))))⟩
        · have hs : aB (wA w) = 8 := (nI_eq (b := 8) (by omega) (by decide)).mp c49
          refine z_bipush (-4) dX10_book_52 (by decide) ?_
          refine z_ireturn dX10_book_54 rfl rfl ⟨Nat.le_refl _, Nat.le_refl _⟩ ?_
          exact ⟨rfl, _, rfl, h1 c2 (zo_ne0.mp c21) (zo_ne0.mp c33) hs⟩
      · refine z_bipush (-2) dX10_book_36 (by decide) ?_
        refine z_ireturn dX10_book_38 rfl rfl ⟨Nat.le_refl _, Nat.le_refl _⟩ ?_
        exact ⟨rfl, _, rfl, hb c2 (zo_ne0.mp c21) (fun q => zoT q c33)⟩
    · refine z_iconst (-1) dX10_book_24 rfl ?_
      refine z_ireturn dX10_book_25 rfl rfl ⟨Nat.le_refl _, Nat.le_refl _⟩ ?_
      exact ⟨rfl, _, rfl, h0 c2 (fun q => zoT q c21)⟩
  · refine z_aload_n dX10_book_5 rfl ?_
    refine s_getr f_Mo_11 dX10_book_6 (by assumption) rfl ?_
    refine z_sipush 526 dX10_book_9 (by decide) ?_
    refine z_iconst 0 dX10_book_12 rfl ?_
    refine s_iast dX10_book_13 (by assumption) (by first | assumption | exact vp_in_nI (by omega) (by omega) | (unfold vp_in; decide)) ?_
    refine z_iconst 0 dX10_book_14 rfl ?_
    refine z_ireturn dX10_book_15 rfl rfl ⟨Nat.le_refl _, Nat.le_refl _⟩ ?_
    exact ⟨rfl, _, rfl, hc _ c2 (frS.seta inM1) (hR.now (P := fun b => b = m + 1) (frS.seta rfl) (fun b p1 p2 p3 p4 p5 p6 => p3) (za_gset k1))⟩
theorem C_Mo_image (hM : tMo sh m) (hR : rMo S m w) (hW : wOK w) (h1 : ∀ S', frS S (inM m) S' → rMo S' m (wImg w) → P (some (.int (nI (aN (wA w))))) S') : zR G m_Mo_image 2 sh [.ref m] S P := by
  obtain ⟨m0, a1, a2, a3, a4, a5, a6, a7, a8, a9, a10, a11, a12, a13, a14, a15, a16, a22⟩ := id hM
  obtain ⟨k1, k2, k3, ⟨k4, kr⟩, ⟨kL, ktx⟩, kt⟩ := id hR
  obtain ⟨g0, gi, ⟨g2, g2q⟩, ⟨g3, g3x⟩, g4⟩ := id hW
  obtain ⟨⟨b1, b2, b3, b4, b5⟩, ⟨e1, e2, e3, e4, e5⟩, eV, eM, eMo, eS, eB⟩ := id g0
  have hv : ∀ j, j < aN (wA w) → ∀ c, c < 4 → aV (wA w) j c < 16 := fun j hj c hc => (eV j hj c hc).2
  have gn := (k1 480 (by decide)).trans e1
  refine s_meth 0 ⟨p_Mo, rfl, Nat.le_of_ble_eq_true rfl⟩ rfl (fun sz => ?_)
  refine z_aload_n dX10_image_0 rfl ?_
  refine s_getr f_Mo_11 dX10_image_1 (by assumption) rfl ?_
  refine z_aload_n dX10_image_4 rfl ?_
  refine s_getr f_Mo_18 dX10_image_5 (by assumption) rfl ?_
  refine n_callS0 l_Mo_188 (C_Mo_copy a1 a3 (by omega)) dX10_image_8 rfl rfl (Nat.le_of_ble_eq_true rfl) ⟨⟨by decide, by decide⟩, by decide, by decide⟩ (fun S8 q8 => ?_)
  refine z_aload_n dX10_image_11 rfl ?_
  refine z_iconst 1 dX10_image_12 rfl ?_
  refine s_puti f_Mo_198 dX10_image_13 (by assumption) rfl ⟨rfl, rfl⟩ ?_
  refine z_aload_n dX10_image_16 rfl ?_
  refine s_getr f_Mo_11 dX10_image_17 (by assumption) rfl ?_
  refine z_sipush 480 dX10_image_20 (by decide) ?_
  refine s_iald dX10_image_23 (by assumption) (by first | assumption | exact vp_in_nI (by omega) (by omega) | (unfold vp_in; decide)) ?_
  rw [show (480 : Int32).toNatClampNeg = 480 from rfl, show za (zsi S8 m 3 1) (m + 1) 480 = nI (aN (wA w)) from (congrFun (q8.1 _ (by omega)).2.2.1 _).trans gn]
  refine z_ireturn dX10_image_24 rfl rfl ⟨Nat.le_refl _, Nat.le_refl _⟩ ?_
  have f2 : frS S (fun b => b = m ∨ b = m + 3) (zsi S8 m 3 1) := (q8.1.weaken (fun b hb => Or.inr hb)).trans (frS.seti (Or.inl rfl))
  have o : ∀ b, m < b → b ≠ m + 3 → ¬ (b = m ∨ b = m + 3) := fun b h1 h2 => by omega
  exact ⟨rfl, _, rfl, h1 _ (f2.weaken (fun b hb => by unfold inM; omega)) ⟨fun i hi => (congrFun (f2 _ (o _ (by omega) (by omega))).2.2.1 i).trans (k1 i hi), zi_si, fun _ i hi => (q8.2 i hi).trans (k1 i hi), ⟨(zi_sik (by decide)).trans ((congrFun (q8.1 _ (by omega)).1 4).trans k4), fun k hk => ⟨(congrFun (f2 _ (o _ (by omega) (by omega))).2.2.1 k).trans (kr k hk).1, (kr k hk).2.fr f2 (fun b b1 b2 => o b (by omega) (by omega))⟩⟩, ⟨(zi_sik (by decide)).trans ((congrFun (q8.1 _ (by omega)).1 13).trans kL), fun i hi => (congrFun (f2 _ (o _ (by omega) (by omega))).2.2.1 i).trans (ktx i hi)⟩, fun t ht => ⟨(congrFun (f2 _ (o _ (by omega) (by omega))).2.2.1 t).trans (kt t ht).1, (congrFun (f2 _ (o _ (by omega) (by omega))).2.2.1 t).trans (kt t ht).2.1, fun i hi => (congrFun (f2 _ (o _ (by omega) (by omega))).2.2.2 i).trans ((kt t ht).2.2 i hi)⟩⟩⟩
theorem C_Mo_undo (hM : tMo sh m) (hR : rMo S m w) (hW : wOK w) (h0 : wH w = false → P (some (.int (-3))) S) (h1 : ∀ S', wH w = true → frS S (inM m) S' → rMo S' m (wNow w (wA2 w) (wg2 w)) → P (some (.int (nI (aN (wA2 w))))) S') : zR G m_Mo_undo 2 sh [.ref m] S P := by
  obtain ⟨m0, a1, a2, a3, a4, a5, a6, a7, a8, a9, a10, a11, a12, a13, a14, a15, a16, a22⟩ := id hM
  obtain ⟨k1, k2, k3, ⟨k4, kr⟩, ⟨kL, ktx⟩, kt⟩ := id hR
  obtain ⟨g0, gi, ⟨g2, g2q⟩, ⟨g3, g3x⟩, g4⟩ := id hW
  obtain ⟨⟨b1, b2, b3, b4, b5⟩, ⟨e1, e2, e3, e4, e5⟩, eV, eM, eMo, eS, eB⟩ := id g0
  have hv : ∀ j, j < aN (wA w) → ∀ c, c < 4 → aV (wA w) j c < 16 := fun j hj c hc => (eV j hj c hc).2
  refine s_meth 0 ⟨p_Mo, rfl, Nat.le_of_ble_eq_true rfl⟩ rfl (fun sz => ?_)
  refine z_aload_n dX10_undo_0 rfl ?_
  refine s_geti f_Mo_198 dX10_undo_1 (by assumption) rfl ?_
  refine z_if_ne 10 dX10_undo_4 (by decide) (fun c4 => ?_) (fun c4 => ?_)
  · rw [k2] at c4
    have hh := zo_ne0.mp c4
    have hb2 := (gi hh).2.1.1
    refine z_aload_n dX10_undo_10 rfl ?_
    refine s_getr f_Mo_18 dX10_undo_11 (by assumption) rfl ?_
    refine z_aload_n dX10_undo_14 rfl ?_
    refine s_getr f_Mo_11 dX10_undo_15 (by assumption) rfl ?_
    refine n_callS0 l_Mo_188 (C_Mo_copy a3 a1 (by omega)) dX10_undo_18 rfl rfl (Nat.le_of_ble_eq_true rfl) ⟨⟨by decide, by decide⟩, by decide, by decide⟩ (fun S18 q18 => ?_)
    refine z_aload_n dX10_undo_21 rfl ?_
    refine s_getr f_Mo_11 dX10_undo_22 (by assumption) rfl ?_
    refine z_sipush 480 dX10_undo_25 (by decide) ?_
    refine s_iald dX10_undo_28 (by assumption) (by first | assumption | exact vp_in_nI (by omega) (by omega) | (unfold vp_in; decide)) ?_
    rw [show (480 : Int32).toNatClampNeg = 480 from rfl, q18.2 480 (by decide), k3 hh 480 (by decide), hb2]
    refine z_ireturn dX10_undo_29 rfl rfl ⟨Nat.le_refl _, Nat.le_refl _⟩ ?_
    exact ⟨rfl, _, rfl, h1 _ hh (q18.1.weaken (fun b hb => by unfold inM; omega)) (hR.now q18.1 (fun b p1 p2 p3 p4 p5 p6 => p3) (fun i hi => (q18.2 i hi).trans (k3 hh i hi)))⟩
  · rw [k2] at c4
    have hh := zo_eq0.mp c4
    refine z_bipush (-3) dX10_undo_7 (by decide) ?_
    refine z_ireturn dX10_undo_9 rfl rfl ⟨Nat.le_refl _, Nat.le_refl _⟩ ?_
    exact ⟨rfl, _, rfl, h0 hh⟩
theorem C_Mo_count {p : Int32} (hM : tMo sh m) (hR : rMo S m w) (hW : wOK w) (h0 : ¬ rg p 7 = true → P (some (.int (-2))) S) (h1 : ∀ i, i < 7 → p = nI i → P (some (.int (nI (cntA w i)))) S) : zR G m_Mo_count 1 sh [.ref m, .int p] S P := by
  obtain ⟨m0, a1, a2, a3, a4, a5, a6, a7, a8, a9, a10, a11, a12, a13, a14, a15, a16, a22⟩ := id hM
  obtain ⟨k1, k2, k3, ⟨k4, kr⟩, ⟨kL, ktx⟩, kt⟩ := id hR
  obtain ⟨g0, gi, ⟨g2, g2q⟩, ⟨g3, g3x⟩, g4⟩ := id hW
  obtain ⟨⟨b1, b2, b3, b4, b5⟩, ⟨e1, e2, e3, e4, e5⟩, eV, eM, eMo, eS, eB⟩ := id g0
  have hv : ∀ j, j < aN (wA w) → ∀ c, c < 4 → aV (wA w) j c < 16 := fun j hj c hc => (eV j hj c hc).2
  refine s_meth 0 ⟨p_Mo, rfl, Nat.le_of_ble_eq_true rfl⟩ rfl (fun sz => ?_)
  refine z_iload_n dX10_count_0 rfl ?_
  refine z_table 0 [44, 53, 62, 67, 76, 85, 94] 99 dX10_count_1 (by decide) ⟨fun c1 => ?_, fun c1 => ?_, fun c1 => ?_, fun c1 => ?_, fun c1 => ?_, fun c1 => ?_, fun c1 => ?_, trivial⟩ (fun c1 => ?_)
  · refine z_aload_n dX10_count_44 rfl ?_
    refine s_getr f_Mo_11 dX10_count_45 (by assumption) rfl ?_
    refine z_sipush 480 dX10_count_48 (by decide) ?_
    refine s_iald dX10_count_51 (by assumption) (by first | assumption | exact vp_in_nI (by omega) (by omega) | (unfold vp_in; decide)) ?_
    refine z_ireturn dX10_count_52 rfl rfl ⟨Nat.le_refl _, Nat.le_refl _⟩ ?_
    rw [show (480 : Int32).toNatClampNeg = 480 from rfl, k1 480 (by decide), e1]
    exact ⟨rfl, _, rfl, h1 0 (by decide) c1⟩
  · refine z_aload_n dX10_count_53 rfl ?_
    refine s_getr f_Mo_11 dX10_count_54 (by assumption) rfl ?_
    refine z_sipush 481 dX10_count_57 (by decide) ?_
    refine s_iald dX10_count_60 (by assumption) (by first | assumption | exact vp_in_nI (by omega) (by omega) | (unfold vp_in; decide)) ?_
    refine z_ireturn dX10_count_61 rfl rfl ⟨Nat.le_refl _, Nat.le_refl _⟩ ?_
    rw [show (481 : Int32).toNatClampNeg = 481 from rfl, k1 481 (by decide), e2]
    exact ⟨rfl, _, rfl, h1 1 (by decide) c1⟩
  · refine z_aload_n dX10_count_62 rfl ?_
    refine s_geti f_Mo_114 dX10_count_63 (by assumption) rfl ?_
    refine z_ireturn dX10_count_66 rfl rfl ⟨Nat.le_refl _, Nat.le_refl _⟩ ?_
    rw [k4]
    exact ⟨rfl, _, rfl, h1 2 (by decide) c1⟩
  · refine z_aload_n dX10_count_67 rfl ?_
    refine s_getr f_Mo_11 dX10_count_68 (by assumption) rfl ?_
    refine z_sipush 492 dX10_count_71 (by decide) ?_
    refine s_iald dX10_count_74 (by assumption) (by first | assumption | exact vp_in_nI (by omega) (by omega) | (unfold vp_in; decide)) ?_
    refine z_ireturn dX10_count_75 rfl rfl ⟨Nat.le_refl _, Nat.le_refl _⟩ ?_
    rw [show (492 : Int32).toNatClampNeg = 492 from rfl, k1 492 (by decide), e3]
    exact ⟨rfl, _, rfl, h1 3 (by decide) c1⟩
  · refine z_aload_n dX10_count_76 rfl ?_
    refine s_getr f_Mo_11 dX10_count_77 (by assumption) rfl ?_
    refine z_sipush 505 dX10_count_80 (by decide) ?_
    refine s_iald dX10_count_83 (by assumption) (by first | assumption | exact vp_in_nI (by omega) (by omega) | (unfold vp_in; decide)) ?_
    refine z_ireturn dX10_count_84 rfl rfl ⟨Nat.le_refl _, Nat.le_refl _⟩ ?_
    rw [show (505 : Int32).toNatClampNeg = 505 from rfl, k1 505 (by decide), e4]
    exact ⟨rfl, _, rfl, h1 4 (by decide) c1⟩
  · refine z_aload_n dX10_count_85 rfl ?_
    refine s_getr f_Mo_11 dX10_count_86 (by assumption) rfl ?_
    refine z_sipush 526 dX10_count_89 (by decide) ?_
    refine s_iald dX10_count_92 (by assumption) (by first | assumption | exact vp_in_nI (by omega) (by omega) | (unfold vp_in; decide)) ?_
    refine z_ireturn dX10_count_93 rfl rfl ⟨Nat.le_refl _, Nat.le_refl _⟩ ?_
    rw [show (526 : Int32).toNatClampNeg = 526 from rfl, k1 526 (by decide), e5]
    exact ⟨rfl, _, rfl, h1 5 (by decide) c1⟩
  · refine z_aload_n dX10_count_94 rfl ?_
    refine s_geti f_Mo_85 dX10_count_95 (by assumption) rfl ?_
    refine z_ireturn dX10_count_98 rfl rfl ⟨Nat.le_refl _, Nat.le_refl _⟩ ?_
    rw [kL]
    exact ⟨rfl, _, rfl, h1 6 (by decide) c1⟩
  · refine z_bipush (-2) dX10_count_99 (by decide) ?_
    refine z_ireturn dX10_count_101 rfl rfl ⟨Nat.le_refl _, Nat.le_refl _⟩ ?_
    exact ⟨rfl, _, rfl, h0 (fun q => by
      obtain ⟨j, hj, e⟩ := rg_t (by decide) q
      exact c1 j (Nat.zero_le _) hj e)⟩
theorem C_Mo_taken {p q : Int32} (hM : tMo sh m) (hR : rMo S m w) (hW : wOK w) (h0 : ¬ rg q 7 = true → P (some (.int (-2))) S) (h1 : rg q 7 = true → ¬ rg p (wq w) = true → P (some (.int (-11))) S)
    (h2 : ∀ k j, k < wq w → p = nI k → j < 7 → q = nI j → P (some (.int (if nS (wnd w k) (wN w k - 1) = j then nI j else -12))) S) : zR G m_Mo_taken 3 sh [.ref m, .int p, .int q] S P := by
  obtain ⟨m0, a1, a2, a3, a4, a5, a6, a7, a8, a9, a10, a11, a12, a13, a14, a15, a16, a22⟩ := id hM
  obtain ⟨k1, k2, k3, ⟨k4, kr⟩, ⟨kL, ktx⟩, kt⟩ := id hR
  obtain ⟨g0, gi, ⟨g2, g2q⟩, ⟨g3, g3x⟩, g4⟩ := id hW
  obtain ⟨⟨b1, b2, b3, b4, b5⟩, ⟨e1, e2, e3, e4, e5⟩, eV, eM, eMo, eS, eB⟩ := id g0
  have hv : ∀ j, j < aN (wA w) → ∀ c, c < 4 → aV (wA w) j c < 16 := fun j hj c hc => (eV j hj c hc).2
  refine s_meth 0 ⟨p_Mo, rfl, Nat.le_of_ble_eq_true rfl⟩ rfl (fun sz => ?_)
  refine z_iload_n dX10_taken_0 rfl ?_
  refine z_iconst 0 dX10_taken_1 rfl ?_
  refine z_bipush 6 dX10_taken_2 (by decide) ?_
  refine s_callS1 l_Mo_63 (C_Mo_in0 (n := 7) (by decide) (by decide)) dX10_taken_4 rfl rfl (Nat.le_of_ble_eq_true rfl) ⟨⟨by decide, by decide⟩, by decide, by decide⟩ ?_
  refine z_if_ne 13 dX10_taken_7 (by decide) (fun c7 => ?_) (fun c7 => ?_)
  · refine z_aload_n dX10_taken_13 rfl ?_
    refine z_iload_n dX10_taken_14 rfl ?_
    refine s_callV1 l_Mo_163 (C_Mo_isQuery hM k4 (by omega)) m0 dX10_taken_15 rfl rfl (Nat.le_of_ble_eq_true rfl) ⟨⟨by decide, by decide⟩, by decide, by decide⟩ ?_
    refine z_if_ne 24 dX10_taken_18 (by decide) (fun c18 => ?_) (fun c18 => ?_)
    · obtain ⟨j, hj, rfl⟩ := rg_t (by decide) (zo_ne0.mp c7)
      obtain ⟨k, hk, rfl⟩ := rg_t (by omega) (zo_ne0.mp c18)
      have hf := g2q k hk
      have hN0 := hf.1
      have hN50 := hf.2.1
      have hs7 := hf.s7 (i := wN w k - 1) (by omega)
      have hA := h2 k j hk rfl hj rfl
      have hn := ((kr k hk).2 (wN w k - 1) (by omega)).1
      refine z_aload_n dX10_taken_24 rfl ?_
      refine s_getr f_Mo_24 dX10_taken_25 (by assumption) rfl ?_
      refine z_aload_n dX10_taken_28 rfl ?_
      refine s_getr f_Mo_21 dX10_taken_29 (by assumption) rfl ?_
      refine z_iload_n dX10_taken_32 rfl ?_
      refine s_iald dX10_taken_33 a4 (vp_in_nI (by omega) (by decide)) ?_
      rw [nI_clamp (by omega), (kr k hk).1]
      refine s_iald dX10_taken_34 a5 (vp_in_nI (by omega) (by decide)) ?_
      rw [nI_clamp (by omega), hn]
      refine z_iload_n dX10_taken_35 rfl ?_
      refine z_icmp_ne 43 dX10_taken_36 (by decide) (fun c36 => ?_) (fun c36 => ?_)
      · rw [if_neg (fun q => c36 (by rw [q]))] at hA
        refine z_bipush (-12) dX10_taken_43 (by decide) ?_
        refine z_ireturn dX10_taken_45 rfl rfl ⟨Nat.le_refl _, Nat.le_refl _⟩ ?_
        exact ⟨rfl, _, rfl, hA⟩
      · rw [if_pos ((nI_eq (by omega) (by omega)).mp c36)] at hA
        refine z_iload_n dX10_taken_39 rfl ?_
        refine z_goto 45 dX10_taken_40 (by decide) ?_
        refine z_ireturn dX10_taken_45 rfl rfl ⟨Nat.le_refl _, Nat.le_refl _⟩ ?_
        exact ⟨rfl, _, rfl, hA⟩
    · refine z_bipush (-11) dX10_taken_21 (by decide) ?_
      refine z_ireturn dX10_taken_23 rfl rfl ⟨Nat.le_refl _, Nat.le_refl _⟩ ?_
      exact ⟨rfl, _, rfl, h1 (zo_ne0.mp c7) (fun q => zoT q c18)⟩
  · refine z_bipush (-2) dX10_taken_10 (by decide) ?_
    refine z_ireturn dX10_taken_12 rfl rfl ⟨Nat.le_refl _, Nat.le_refl _⟩ ?_
    exact ⟨rfl, _, rfl, h0 (fun q => zoT q c7)⟩
theorem C_Mo_isTape {y : Int32} : zD G m_Mo_isTape 2 sh [.int y] S (some (.int (zo (rg y 6)))) S := by
  refine s_methD 0 ⟨p_Mo, rfl, Nat.le_of_ble_eq_true rfl⟩ rfl (fun sz => ?_)
  refine z_iload_n dX10_isTape_0 rfl ?_
  refine z_iconst 0 dX10_isTape_1 rfl ?_
  refine z_iconst 5 dX10_isTape_2 rfl ?_
  refine s_callS1 l_Mo_63 (C_Mo_in0 (n := 6) (by decide) (by decide)) dX10_isTape_3 rfl rfl (Nat.le_of_ble_eq_true rfl) ⟨⟨by decide, by decide⟩, by decide, by decide⟩ ?_
  refine z_ireturn dX10_isTape_6 rfl zo_nar ⟨Nat.le_refl _, Nat.le_refl _⟩ ?_
  exact ⟨rfl, rfl, rfl⟩
theorem C_Mo_fit {y : Int64} (hk : k < 5) : zD G m_Mo_fit 1 sh [.int (nI k), .long y] S (some (.long (fitv k y))) S := by
  have ik : ∀ i, i < 5 → nI k = nI i → k = i := fun i hi h => (nI_eq (by omega) (by omega)).mp h
  refine s_methD 0 ⟨p_Mo, rfl, Nat.le_of_ble_eq_true rfl⟩ rfl (fun sz => ?_)
  refine z_iload_n dX10_fit_0 rfl ?_
  refine z_table 0 [32, 37, 42, 46] 48 dX10_fit_1 (by decide) ⟨fun c1 => ?_, fun c1 => ?_, fun c1 => ?_, fun c1 => ?_, trivial⟩ (fun c1 => ?_)
  · have hk0 : k = 0 := ik 0 (by decide) c1
    refine z_lload_n dX10_fit_32 rfl ?_
    refine z_l2i dX10_fit_33 ?_
    refine z_i2b dX10_fit_34 ?_
    refine z_i2l dX10_fit_35 ?_
    refine z_lreturn dX10_fit_36 rfl ⟨Nat.le_refl _, Nat.le_refl _⟩ ?_
    subst hk0
    first
      | exact ⟨rfl, rfl, rfl⟩
      | (rw [show fitv 4 y = 1 from if_neg hx]; exact ⟨rfl, rfl, rfl⟩)
      | (rw [show fitv 4 y = 0 from if_pos hx]; exact ⟨rfl, rfl, rfl⟩)
      | skip
  · have hk0 : k = 1 := ik 1 (by decide) c1
    refine z_lload_n dX10_fit_37 rfl ?_
    refine z_l2i dX10_fit_38 ?_
    refine z_i2s dX10_fit_39 ?_
    refine z_i2l dX10_fit_40 ?_
    refine z_lreturn dX10_fit_41 rfl ⟨Nat.le_refl _, Nat.le_refl _⟩ ?_
    subst hk0
    first
      | exact ⟨rfl, rfl, rfl⟩
      | (rw [show fitv 4 y = 1 from if_neg hx]; exact ⟨rfl, rfl, rfl⟩)
      | (rw [show fitv 4 y = 0 from if_pos hx]; exact ⟨rfl, rfl, rfl⟩)
      | skip
  · have hk0 : k = 2 := ik 2 (by decide) c1
    refine z_lload_n dX10_fit_42 rfl ?_
    refine z_l2i dX10_fit_43 ?_
    refine z_i2l dX10_fit_44 ?_
    refine z_lreturn dX10_fit_45 rfl ⟨Nat.le_refl _, Nat.le_refl _⟩ ?_
    subst hk0
    first
      | exact ⟨rfl, rfl, rfl⟩
      | (rw [show fitv 4 y = 1 from if_neg hx]; exact ⟨rfl, rfl, rfl⟩)
      | (rw [show fitv 4 y = 0 from if_pos hx]; exact ⟨rfl, rfl, rfl⟩)
      | skip
  · have hk0 : k = 3 := ik 3 (by decide) c1
    refine z_lload_n dX10_fit_46 rfl ?_
    refine z_lreturn dX10_fit_47 rfl ⟨Nat.le_refl _, Nat.le_refl _⟩ ?_
    subst hk0
    first
      | exact ⟨rfl, rfl, rfl⟩
      | (rw [show fitv 4 y = 1 from if_neg hx]; exact ⟨rfl, rfl, rfl⟩)
      | (rw [show fitv 4 y = 0 from if_pos hx]; exact ⟨rfl, rfl, rfl⟩)
      | skip
  · have hk0 : k = 4 := by
      rcases Nat.lt_or_ge k 4 with q | q
      · exact absurd rfl (c1 k (Nat.zero_le _) q)
      · omega
    refine z_lload_n dX10_fit_48 rfl ?_
    refine z_lconst 0 dX10_fit_49 (by decide) ?_
    refine z_lcmp dX10_fit_50 ?_
    refine z_if_eq 58 dX10_fit_51 (by decide) (fun c51 => ?_) (fun c51 => ?_)
    · have hx := lgc0.mp c51
      refine z_lconst 0 dX10_fit_58 (by decide) ?_
      refine z_lreturn dX10_fit_59 rfl ⟨Nat.le_refl _, Nat.le_refl _⟩ ?_
      subst hk0
      first
        | exact ⟨rfl, rfl, rfl⟩
        | (rw [show fitv 4 y = 1 from if_neg hx]; exact ⟨rfl, rfl, rfl⟩)
        | (rw [show fitv 4 y = 0 from if_pos hx]; exact ⟨rfl, rfl, rfl⟩)
        | skip
    · have hx : ¬ y = 0 := fun q => c51 (lgc0.mpr q)
      refine z_lconst 1 dX10_fit_54 (by decide) ?_
      refine z_goto 59 dX10_fit_55 (by decide) ?_
      refine z_lreturn dX10_fit_59 rfl ⟨Nat.le_refl _, Nat.le_refl _⟩ ?_
      subst hk0
      first
        | exact ⟨rfl, rfl, rfl⟩
        | (rw [show fitv 4 y = 1 from if_neg hx]; exact ⟨rfl, rfl, rfl⟩)
        | (rw [show fitv 4 y = 0 from if_pos hx]; exact ⟨rfl, rfl, rfl⟩)
        | skip
end MOC

