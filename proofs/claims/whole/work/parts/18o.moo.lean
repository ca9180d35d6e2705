/-! ===== the model: query ===== -/
section MOO
variable {G : zG} {sh : Nat → Option zSh} {S : zSt} {m : Nat} {w : Wd} {P : Option Value → zSt → Prop}
theorem C_Mo_query (hM : tMo sh m) (hR : rMo S m w) (hW : wOK w) (h0 : wq w = 8 → P (some (.int (-4))) S)
    (h1 : ∀ S', wq w < 8 → 0 ≤ (pAll (wtx w) (wL w)).f → frS S (inM m) S' → rMo S' m (wText w 0 (wtx w)) → P (some (.int (-10 - (pAll (wtx w) (wL w)).f))) S')
    (h2 : ∀ S', wq w < 8 → (pAll (wtx w) (wL w)).f = -1 → frS S (inM m) S' → rMo S' m (wQry w) → P (some (.int (nI (wq w)))) S') : zR G m_Mo_query 60 sh [.ref m] S P := by
  obtain ⟨m0, a1, a2, a3, a4, a5, a6, a7, a8, a9, a10, a11, a12, a13, a14, a15, a16, a22⟩ := id hM
  obtain ⟨k1, k2, k3, ⟨k4, kr⟩, ⟨kL, ktx⟩, kt⟩ := id hR
  obtain ⟨g0, gi, ⟨g2, g2q⟩, ⟨g3, g3x⟩, g4⟩ := id hW
  obtain ⟨⟨b1, b2, b3, b4, b5⟩, ⟨e1, e2, e3, e4, e5⟩, eV, eM, eMo, eS, eB⟩ := id g0
  have hv : ∀ j, j < aN (wA w) → ∀ c, c < 4 → aV (wA w) j c < 16 := fun j hj c hc => (eV j hj c hc).2
  have hE : wq w < 8 → ∀ S4, mP S4 m (wL w) (wtx w) (wq w) 1000 ps0 → zR G m_Mo_either 30 sh [.ref m, .int 0] S4 (qPost m (wL w) (wtx w) (wq w) 1000 S4 (pE (wtx w) (wL w) (pF (wtx w) (wL w) 6) ps0)) := fun h8 S4 hh => C_mE hM h8 g3 1000 S4 ps0 (by decide) (by decide) hh
  have kE := (pE_k (tx := wtx w) (pF_k (tx := wtx w) (L := wL w) 6) ps0).1 (Nat.zero_le _)
  have hpa := pAll_eq (tx := wtx w) (L := wL w)
  have hwf := fun h => (pAll_wf (tx := wtx w) g3 h)
  have hfo := pAll_f (tx := wtx w) g3
  generalize hpe : pE (wtx w) (wL w) (pF (wtx w) (wL w) 6) ps0 = t at *
  have kE : t.p ≤ wL w := kE.2
  refine s_meth 1 ⟨p_Mo, rfl, Nat.le_of_ble_eq_true rfl⟩ rfl (fun sz => ?_)
  have k93 : ∀ S4 S5 c5 z, wq w < 8 → (∀ b, b ≠ m → zag S S4 b) → (∀ j, j < 19 → zi S4 m j = zi S m j) → psS m (wq w) S4 S5 → mC S5 m (wL w) (wtx w) (wq w) c5 (pAll (wtx w) (wL w)).c → ((pAll (wtx w) (wL w)).f = -1 → rNd S5 m (60 * wq w) (pAll (wtx w) (wL w)).n (pAll (wtx w) (wL w)).nd ∧ z = nI (60 * wq w + ((pAll (wtx w) (wL w)).n - 1))) → zW G m_Mo_query (zRm 60 0 0) (zFm G (zP sh sz P) 0 0) 0 0 93 [some (.ref m), some (.int z)] [] (zhp sh S5) sz := by
    intro S4 S5 c5 z h8 f1 f2 f3 f4 f5
    obtain ⟨y13, ytx, y4, y22, y5, y20, y21, q1, y19, yq, yqs⟩ := id f4
    have fi : ∀ j, j < 19 → zi S5 m j = zi S m j := fun j hj => (f3.2.1 j (by omega) (by omega) (by omega)).trans (f2 j hj)
    have fz : ∀ b, b ≠ m → b < m + 5 ∨ m + 11 ≤ b → zag S S5 b := fun b b1 b2 => (f1 b b1).tr (f3.1 b b1 b2)
    have fnd : ∀ j, j < wq w → rNd S5 m (60 * j) (wN w j) (wnd w j) := fun j hj => ((kr j hj).2.fr (P := fun b => b = m) (fun b hb => f1 b hb) (fun b b1 b2 => by omega)).ps f3 hj (by have := (g2q j hj).2.1; omega)
    have ffr : frS S (fun b => b = m ∨ (m + 5 ≤ b ∧ b < m + 11)) S5 := fun b hb => fz b (by omega) (by omega)
    refine z_aload_n dX10_query_93 rfl ?_
    refine z_iconst 0 dX10_query_94 rfl ?_
    refine s_puti f_Mo_85 dX10_query_95 (by assumption) rfl ⟨rfl, rfl⟩ ?_
    refine z_aload_n dX10_query_98 rfl ?_
    refine s_geti f_Mo_89 dX10_query_99 (by assumption) rfl ?_
    rw [show zi (zsi S5 m 13 0) m 20 = (pAll (wtx w) (wL w)).f from (zi_sik (by decide)).trans y20]
    refine z_if_lt 113 dX10_query_102 (by decide) (fun c102 => ?_) (fun c102 => ?_)
    · have hf : (pAll (wtx w) (wL w)).f = -1 := (okF_neg y5).mp c102
      obtain ⟨f6, f7⟩ := f5 hf
      have hq := (hwf hf).2
      refine z_aload_n dX10_query_113 rfl ?_
      refine s_getr f_Mo_21 dX10_query_114 (by assumption) rfl ?_
      refine z_aload_n dX10_query_117 rfl ?_
      refine s_geti f_Mo_114 dX10_query_118 (by assumption) rfl ?_
      rw [show zi (zsi S5 m 13 0) m 4 = nI (wq w) from (zi_sik (by decide)).trans y4]
      refine z_iload_n dX10_query_121 rfl ?_
      refine s_iast dX10_query_122 a4 (vp_in_nI h8 (by decide)) ?_
      rw [nI_clamp (by omega)]
      refine z_aload_n dX10_query_123 rfl ?_
      refine z_dup dX10_query_124 rfl ?_
      refine s_geti f_Mo_114 dX10_query_125 (by assumption) rfl ?_
      rw [show zi (zsa (zsi S5 m 13 0) (m + 4) (wq w) z) m 4 = nI (wq w) from (zi_sik (by decide)).trans y4]
      refine z_dup_x1 dX10_query_128 rfl rfl ?_
      refine z_iconst 1 dX10_query_129 rfl ?_
      refine z_iadd dX10_query_130 ?_
      rw [nI_1]
      refine s_puti f_Mo_114 dX10_query_131 (by assumption) rfl ⟨rfl, rfl⟩ ?_
      refine z_ireturn dX10_query_134 rfl rfl ⟨Nat.le_refl _, Nat.le_refl _⟩ ?_
      have g1 : frS S (fun b => b = m ∨ b = m + 4 ∨ (m + 5 ≤ b ∧ b < m + 11)) (zsi (zsa (zsi S5 m 13 0) (m + 4) (wq w) z) m 4 (nI (wq w + 1))) := ((ffr.weaken (fun b hb => by omega)).trans (frS.seti (Or.inl rfl))).trans ((frS.seta (Or.inr (Or.inl rfl))).trans (frS.seti (Or.inl rfl)))
      have nn : ∀ b N nd, rNd S5 m b N nd → rNd (zsi (zsa (zsi S5 m 13 0) (m + 4) (wq w) z) m 4 (nI (wq w + 1))) m b N nd := fun b N nd hh => hh.fr (P := fun b => b = m ∨ b = m + 4) ((frS.seti (Or.inl rfl)).trans ((frS.seta (Or.inr rfl)).trans (frS.seti (Or.inl rfl)))) (fun b b1 b2 => by omega)
      refine ⟨rfl, _, rfl, h2 _ h8 hf (g1.weaken (fun b hb => by unfold inM; omega)) (hR.upd (qs := (wQry w).2.2.1) (tx := (0, wtx w)) (ts := w.2.2.2.2) g1 ⟨by omega, by omega⟩ ((zi_sik (by decide)).trans ((zi_sik (by decide)).trans (fi 3 (by decide)))) ⟨zi_si, fun j hj => ?_⟩ ⟨(zi_sik (by decide)).trans zi_si, fun i hi => absurd hi (Nat.not_lt_zero _)⟩ (fun t ht => ⟨(congrFun (g1 _ (by omega)).2.2.1 t).trans (kt t ht).1, (congrFun (g1 _ (by omega)).2.2.1 t).trans (kt t ht).2.1, fun i hi => (congrFun (g1 _ (by omega)).2.2.2 i).trans ((kt t ht).2.2 i hi)⟩))⟩
      have hj : j < wq w + 1 := hj
      by_cases e : j = wq w
      · subst e
        show za _ (m + 4) (wq w) = nI (60 * wq w + ((if wq w = wq w then _ else _ : Nat × Nd).1 - 1)) ∧ rNd _ m _ (if wq w = wq w then _ else _ : Nat × Nd).1 (if wq w = wq w then _ else _ : Nat × Nd).2
        rw [if_pos rfl]
        exact ⟨zup_same.trans f7, nn _ _ _ f6⟩
      · show za _ (m + 4) j = nI (60 * j + ((if j = wq w then _ else w.2.2.1.2 j : Nat × Nd).1 - 1)) ∧ rNd _ m _ (if j = wq w then _ else w.2.2.1.2 j : Nat × Nd).1 (if j = wq w then _ else w.2.2.1.2 j : Nat × Nd).2
        rw [if_neg e]
        exact ⟨(zup_ne (fun q => e q.2)).trans ((congrFun (fz (m + 4) (by omega) (by omega)).2.2.1 j).trans (kr j (by omega)).1), nn _ _ _ (fnd j (by omega))⟩
    · have hf : 0 ≤ (pAll (wtx w) (wL w)).f := Int32.not_lt.mp c102
      refine z_bipush (-10) dX10_query_105 (by decide) ?_
      refine z_aload_n dX10_query_107 rfl ?_
      refine s_geti f_Mo_89 dX10_query_108 (by assumption) rfl ?_
      rw [show zi (zsi S5 m 13 0) m 20 = (pAll (wtx w) (wL w)).f from (zi_sik (by decide)).trans y20]
      refine z_isub dX10_query_111 ?_
      refine z_ireturn dX10_query_112 rfl rfl ⟨Nat.le_refl _, Nat.le_refl _⟩ ?_
      have g1 : frS S (fun b => b = m ∨ (m + 5 ≤ b ∧ b < m + 11)) (zsi S5 m 13 0) := ffr.trans (frS.seti (Or.inl rfl))
      refine ⟨rfl, _, rfl, h1 _ h8 hf (g1.weaken (fun b hb => by unfold inM; omega)) (hR.upd (qs := w.2.2.1) (tx := (0, wtx w)) (ts := w.2.2.2.2) g1 ⟨by omega, by omega⟩ ((zi_sik (by decide)).trans (fi 3 (by decide))) ⟨(zi_sik (by decide)).trans ((fi 4 (by decide)).trans k4), fun j hj => ⟨(congrFun (g1 _ (by omega)).2.2.1 j).trans (kr j hj).1, fnd j hj⟩⟩ ⟨zi_si, fun i hi => absurd hi (Nat.not_lt_zero _)⟩ (fun t ht => ⟨(congrFun (g1 _ (by omega)).2.2.1 t).trans (kt t ht).1, (congrFun (g1 _ (by omega)).2.2.1 t).trans (kt t ht).2.1, fun i hi => (congrFun (g1 _ (by omega)).2.2.2 i).trans ((kt t ht).2.2 i hi)⟩))⟩
  refine z_aload_n dX10_query_0 rfl ?_
  refine s_geti f_Mo_114 dX10_query_1 (by assumption) rfl ?_
  refine z_bipush 8 dX10_query_4 (by decide) ?_
  rw [k4]
  refine z_icmp_ne 12 dX10_query_6 (by decide) (fun c6 => ?_) (fun c6 => ?_)
  · have h8 : wq w < 8 := by
      rcases Nat.lt_or_ge (wq w) 8 with z | z
      · exact z
      · exact absurd (by rw [show wq w = 8 by omega]; rfl) c6
    refine z_aload_n dX10_query_12 rfl ?_
    refine z_iconst 0 dX10_query_13 rfl ?_
    refine s_puti f_Mo_92 dX10_query_14 (by assumption) rfl ⟨rfl, rfl⟩ ?_
    refine z_aload_n dX10_query_17 rfl ?_
    refine z_iconst (-1) dX10_query_18 rfl ?_
    refine s_puti f_Mo_89 dX10_query_19 (by assumption) rfl ⟨rfl, rfl⟩ ?_
    refine z_aload_n dX10_query_22 rfl ?_
    refine z_iconst 0 dX10_query_23 rfl ?_
    refine s_puti f_Mo_111 dX10_query_24 (by assumption) rfl ⟨rfl, rfl⟩ ?_
    refine z_aload_n dX10_query_27 rfl ?_
    refine z_aload_n dX10_query_28 rfl ?_
    refine s_geti f_Mo_114 dX10_query_29 (by assumption) rfl ?_
    rw [show zi (zsi (zsi (zsi S m 19 0) m 20 (-1)) m 21 0) m 4 = nI (wq w) from (zi_sik (by decide)).trans ((zi_sik (by decide)).trans ((zi_sik (by decide)).trans k4))]
    refine z_bipush 60 dX10_query_32 (by decide) ?_
    refine z_imul dX10_query_34 ?_
    rw [show (60 : Int32) = nI 60 from rfl, nI_mulN, Nat.mul_comm]
    refine s_puti f_Mo_108 dX10_query_35 (by assumption) rfl ⟨rfl, rfl⟩ ?_
    refine z_gen (fun S4 e4 => ?_)
    have f1 : ∀ b, b ≠ m → zag S S4 b := fun b hb => by subst e4; exact ⟨(zup_off hb).trans ((zup_off hb).trans ((zup_off hb).trans (zup_off hb))), rfl, rfl, rfl⟩
    have f2 : ∀ j, j < 19 → zi S4 m j = zi S m j := fun j hj => by subst e4; exact (zi_sik (by omega)).trans ((zi_sik (by omega)).trans ((zi_sik (by omega)).trans (zi_sik (by omega))))
    have x19 : zi S4 m 19 = nI 0 := by subst e4; exact (zi_sik (by decide)).trans ((zi_sik (by decide)).trans ((zi_sik (by decide)).trans zi_si))
    have x20 : zi S4 m 20 = -1 := by subst e4; exact (zi_sik (by decide)).trans ((zi_sik (by decide)).trans zi_si)
    have x21 : zi S4 m 21 = nI 0 := by subst e4; exact (zi_sik (by decide)).trans zi_si
    have x22 : zi S4 m 22 = nI (60 * wq w) := by subst e4; exact zi_si
    clear e4
    have hP0 : mP S4 m (wL w) (wtx w) (wq w) 1000 ps0 := ⟨0, ⟨(f2 13 (by decide)).trans kL, fun i hi => (congrFun (f1 (m + 11) (by omega)).2.2.1 i).trans (ktx i hi), (f2 4 (by decide)).trans k4, x22, Or.inl rfl, x20, x21, 0, x19, Nat.zero_le _, fun _ => rfl⟩, fun _ => ⟨rfl, Nat.le_refl _, fun i hi => absurd hi (Nat.not_lt_zero _)⟩, fun _ => Nat.zero_le _⟩
    refine z_aload_n dX10_query_38 rfl ?_
    refine z_iconst 0 dX10_query_39 rfl ?_
    refine s_callV l_Mo_131 (hE h8 S4 hP0) m0 dX10_query_40 rfl rfl (Nat.le_of_ble_eq_true rfl) (rrm (by omega) (by decide)) (fun r40 S40 q40 => ?_)
    obtain ⟨v1, ⟨c2, v2, v3, v4⟩, z', rfl, v5⟩ := q40
    obtain ⟨y13, ytx, y4, y22, y5, y20, y21, q2, y19, yq, yqs⟩ := id v2
    refine z_istore_n (lv' := [_, _]) dX10_query_43 (by decide) rfl ?_
    refine z_aload_n dX10_query_44 rfl ?_
    refine s_geti f_Mo_89 dX10_query_45 (by assumption) rfl ?_
    rw [y20]
    refine z_if_ge 93 dX10_query_48 (by decide) (fun c48 => ?_) (fun c48 => ?_)
    · have hne : t.f ≠ -1 := fun e => by rw [show t.c.2 = -1 from e] at c48; exact absurd c48 (by decide)
      have hpf : (pAll (wtx w) (wL w)).f = t.f := by
        rw [hpa]
        split
        · exact (cBlf_k (tx := wtx w) (L := wL w) t.c).2 hne
        · rfl
      have k9 : zW G m_Mo_query (zRm 60 0 0) (zFm G (zP sh sz P) 0 0) 0 0 93 [some (.ref m), some (.int z')] [] (zhp sh S40) sz := k93 S4 S40 c2 z' h8 f1 f2 v1 (v2.any hne hpf) (fun e => absurd (hpf.symm.trans e) hne)
      first
        | exact k9
        | (have hw := v2.wr (y := nI (t.p + 1)) (nI_pos' (by omega))
           have hne3 : bl t.c.2 (nI (t.p + 1)) ≠ -1 := bl_n (by omega)
           refine k93 S4 _ c2 z' h8 f1 f2 (v1.tr (mS.set (Or.inr (Or.inl rfl))).ps) (by rw [hpc]; exact hw) (fun e => ?_)
           have e : (pAll (wtx w) (wL w)).c.2 = -1 := e
           rw [hpc] at e
           exact absurd e hne3)
        | (have hw := v2.wr (y := nI t.p) (nI_pos' (by omega))
           have hne3 : bl t.c.2 (nI t.p) ≠ -1 := bl_n (by omega)
           refine k93 S4 _ c2 z' h8 f1 f2 (v1.tr (mS.set (Or.inr (Or.inl rfl))).ps) (by rw [hpc]; exact hw) (fun e => ?_)
           have e : (pAll (wtx w) (wL w)).c.2 = -1 := e
           rw [hpc] at e
           exact absurd e hne3)
        | skip
    · have hfe : t.f = -1 := (okF_neg y5).mp (Int32.not_le.mp c48)
      obtain ⟨a1, a2, a3⟩ := v3 hfe
      have hqe : q2 = t.p := yqs hfe
      subst hqe
      refine z_aload_n dX10_query_51 rfl ?_
      refine s_geti f_Mo_92 dX10_query_52 (by assumption) rfl ?_
      refine z_aload_n dX10_query_55 rfl ?_
      refine s_geti f_Mo_85 dX10_query_56 (by assumption) rfl ?_
      rw [y19, y13]
      refine z_icmp_ge 93 dX10_query_59 (by decide) (fun c59 => ?_) (fun c59 => ?_)
      · have hqL := i_le (by omega) (by omega) c59
        have hpt : pAll (wtx w) (wL w) = t := hpa.trans (if_neg (by omega))
        have k9 : zW G m_Mo_query (zRm 60 0 0) (zFm G (zP sh sz P) 0 0) 0 0 93 [some (.ref m), some (.int z')] [] (zhp sh S40) sz := k93 S4 S40 c2 z' h8 f1 f2 v1 (by rw [hpt]; exact v2) (fun e => by rw [hpt]; exact ⟨a3, v5 hfe⟩)
        first
          | exact k9
          | (have hw := v2.wr (y := nI (t.p + 1)) (nI_pos' (by omega))
             have hne3 : bl t.c.2 (nI (t.p + 1)) ≠ -1 := bl_n (by omega)
             refine k93 S4 _ c2 z' h8 f1 f2 (v1.tr (mS.set (Or.inr (Or.inl rfl))).ps) (by rw [hpc]; exact hw) (fun e => ?_)
             have e : (pAll (wtx w) (wL w)).c.2 = -1 := e
             rw [hpc] at e
             exact absurd e hne3)
          | (have hw := v2.wr (y := nI t.p) (nI_pos' (by omega))
             have hne3 : bl t.c.2 (nI t.p) ≠ -1 := bl_n (by omega)
             refine k93 S4 _ c2 z' h8 f1 f2 (v1.tr (mS.set (Or.inr (Or.inl rfl))).ps) (by rw [hpc]; exact hw) (fun e => ?_)
             have e : (pAll (wtx w) (wL w)).c.2 = -1 := e
             rw [hpc] at e
             exact absurd e hne3)
          | skip
      · have hqL := i_nle (by omega) c59
        have hpt : pAll (wtx w) (wL w) = psC (cBlf (wtx w) (wL w) t.c) t := hpa.trans (if_pos hqL)
        have hs2 : sgn (wtx w) (wL w) t.p = wtx w t.p := if_pos hqL
        refine z_aload_n dX10_query_62 rfl ?_
        refine z_aload_n dX10_query_63 rfl ?_
        refine s_getr f_Mo_42 dX10_query_64 (by assumption) rfl ?_
        refine z_aload_n dX10_query_67 rfl ?_
        refine s_geti f_Mo_92 dX10_query_68 (by assumption) rfl ?_
        rw [y19]
        refine s_iald dX10_query_71 a11 (vp_in_nI (by omega) (by decide)) ?_
        rw [nI_clamp (by omega), ytx _ hqL]
        refine z_bipush 32 dX10_query_72 (by decide) ?_
        refine z_icmp_ne 86 dX10_query_74 (by decide) (fun c74 => ?_) (fun c74 => ?_)
        · have hpc : (pAll (wtx w) (wL w)).c = (t.p, bl t.c.2 (nI t.p)) := by
            rw [hpt]
            show (t.p, bl t.c.2 (if sgn (wtx w) (wL w) t.p = 32 then nI (t.p + 1) else nI t.p)) = _
            rw [hs2, if_neg c74]
          refine z_aload_n dX10_query_86 rfl ?_
          refine s_geti f_Mo_92 dX10_query_87 (by assumption) rfl ?_
          first
            | rw [y19]
            | skip
          refine s_callV0 l_Mo_99 (C_Mo_wrong hM v2) m0 dX10_query_90 rfl rfl (Nat.le_of_ble_eq_true rfl) (rrm (by omega) (by decide)) ?_
          first
            | exact k9
            | (have hw := v2.wr (y := nI (t.p + 1)) (nI_pos' (by omega))
               have hne3 : bl t.c.2 (nI (t.p + 1)) ≠ -1 := bl_n (by omega)
               refine k93 S4 _ c2 z' h8 f1 f2 (v1.tr (mS.set (Or.inr (Or.inl rfl))).ps) (by rw [hpc]; exact hw) (fun e => ?_)
               have e : (pAll (wtx w) (wL w)).c.2 = -1 := e
               rw [hpc] at e
               exact absurd e hne3)
            | (have hw := v2.wr (y := nI t.p) (nI_pos' (by omega))
               have hne3 : bl t.c.2 (nI t.p) ≠ -1 := bl_n (by omega)
               refine k93 S4 _ c2 z' h8 f1 f2 (v1.tr (mS.set (Or.inr (Or.inl rfl))).ps) (by rw [hpc]; exact hw) (fun e => ?_)
               have e : (pAll (wtx w) (wL w)).c.2 = -1 := e
               rw [hpc] at e
               exact absurd e hne3)
            | skip
        · have hpc : (pAll (wtx w) (wL w)).c = (t.p, bl t.c.2 (nI (t.p + 1))) := by
            rw [hpt]
            show (t.p, bl t.c.2 (if sgn (wtx w) (wL w) t.p = 32 then nI (t.p + 1) else nI t.p)) = _
            rw [hs2, if_pos c74]
          refine z_aload_n dX10_query_77 rfl ?_
          refine s_geti f_Mo_92 dX10_query_78 (by assumption) rfl ?_
          rw [y19]
          refine z_iconst 1 dX10_query_81 rfl ?_
          refine z_iadd dX10_query_82 ?_
          rw [nI_1]
          refine z_goto 90 dX10_query_83 (by decide) ?_
          first
            | rw [y19]
            | skip
          refine s_callV0 l_Mo_99 (C_Mo_wrong hM v2) m0 dX10_query_90 rfl rfl (Nat.le_of_ble_eq_true rfl) (rrm (by omega) (by decide)) ?_
          first
            | exact k9
            | (have hw := v2.wr (y := nI (t.p + 1)) (nI_pos' (by omega))
               have hne3 : bl t.c.2 (nI (t.p + 1)) ≠ -1 := bl_n (by omega)
               refine k93 S4 _ c2 z' h8 f1 f2 (v1.tr (mS.set (Or.inr (Or.inl rfl))).ps) (by rw [hpc]; exact hw) (fun e => ?_)
               have e : (pAll (wtx w) (wL w)).c.2 = -1 := e
               rw [hpc] at e
               exact absurd e hne3)
            | (have hw := v2.wr (y := nI t.p) (nI_pos' (by omega))
               have hne3 : bl t.c.2 (nI t.p) ≠ -1 := bl_n (by omega)
               refine k93 S4 _ c2 z' h8 f1 f2 (v1.tr (mS.set (Or.inr (Or.inl rfl))).ps) (by rw [hpc]; exact hw) (fun e => ?_)
               have e : (pAll (wtx w) (wL w)).c.2 = -1 := e
               rw [hpc] at e
               exact absurd e hne3)
            | skip
  · have h8 := (nI_eq (b := 8) (by omega) (by decide)).mp c6
    refine z_bipush (-4) dX10_query_9 (by decide) ?_
    refine z_ireturn dX10_query_11 rfl rfl ⟨Nat.le_refl _, Nat.le_refl _⟩ ?_
    exact ⟨rfl, _, rfl, h0 h8⟩
end MOO

