/-! ===== the model: a text read ===== -/
/-- what reads X from any place -/
def FacM (G : zG) (sh : Nat → Option zSh) (M : zM) (m k L : Nat) (tx : Nat → Int32) (D : Nat) (w : Int32) (b : Nat) (X : PS → PS) : Prop := ∀ C S s, 60 + b ≤ C → C ≤ 1000 → mP S m L tx k C s → zR G M D sh [.ref m, .int w] S (qPost m L tx k C S (X s))
section MOM
variable {G : zG} {sh : Nat → Option zSh} {S S0 : zSt} {m L k c p C b d D De Df bE bX : Nat} {tx : Nat → Int32} {s : PS} {pc : PC} {w : Int32} {E X : PS → PS}
theorem C_Mo_follows {i : Nat} {y : Int32} (hM : tMo sh m) (h : mC S m L tx k c pc) (hL : L ≤ 100) (hi : i < 7) (hy : y = nI (wcode i)) : zN G m_Mo_follows 4 sh [.ref m, .int y] S (some (.int (zo (isJ tx L i pc)))) (fun S' => mS m S S' ∧ mC S' m L tx k c pc) := by
  obtain ⟨m0, a1, a2, a3, a4, a5, a6, a7, a8, a9, a10, a11, a12, a13, a14, a15, a16, a22⟩ := id hM
  obtain ⟨h13, htx, h4, h22, h5, h20, h21, q, h19, hq, hqs⟩ := id h
  unfold isJ
  refine s_meth 1 ⟨p_Mo, rfl, Nat.le_of_ble_eq_true rfl⟩ rfl (fun sz => ?_)
  refine z_aload_n dX10_follows_0 rfl ?_
  refine s_geti f_Mo_89 dX10_follows_1 (by assumption) rfl ?_
  refine z_if_ge 32 dX10_follows_4 (by decide) (fun c4 => ?_) (fun c4 => ?_)
  · rw [h20] at c4
    have hJ : (decide (pc.2 = -1) && decide (sgn tx L pc.1 = 32) && isW tx L (pc.1 + 1) i) = false := by rw [decide_eq_false (fun e => by rw [e] at c4; exact absurd c4 (by decide))]; rfl
    refine z_iconst 0 dX10_follows_32 rfl ?_
    refine z_ireturn dX10_follows_33 rfl rfl ⟨Nat.le_refl _, Nat.le_refl _⟩ ?_
    rw [hJ]
    exact ⟨rfl, _, rfl, rfl, mS.rf, h⟩
  · rw [h20] at c4
    have hm : pc.2 = -1 := (okF_neg h5).mp (Int32.not_le.mp c4)
    have hqe := hqs hm
    refine z_aload_n dX10_follows_7 rfl ?_
    refine s_geti f_Mo_92 dX10_follows_8 (by assumption) rfl ?_
    refine z_aload_n dX10_follows_11 rfl ?_
    refine s_geti f_Mo_85 dX10_follows_12 (by assumption) rfl ?_
    rw [h19, h13]
    refine z_icmp_ge 32 dX10_follows_15 (by decide) (fun c15 => ?_) (fun c15 => ?_)
    · have hqL := i_le (by omega) (by omega) c15
      have hJ : (decide (pc.2 = -1) && decide (sgn tx L pc.1 = 32) && isW tx L (pc.1 + 1) i) = false := by rw [← hqe, show sgn tx L q = -1 from if_neg (by omega), decide_eq_false (show ¬ (-1 : Int32) = 32 by decide), Bool.and_false]; rfl
      refine z_iconst 0 dX10_follows_32 rfl ?_
      refine z_ireturn dX10_follows_33 rfl rfl ⟨Nat.le_refl _, Nat.le_refl _⟩ ?_
      rw [hJ]
      exact ⟨rfl, _, rfl, rfl, mS.rf, h⟩
    · have hqL := i_nle (by omega) c15
      have hsg : sgn tx L q = tx q := if_pos hqL
      refine z_aload_n dX10_follows_18 rfl ?_
      refine s_getr f_Mo_42 dX10_follows_19 (by assumption) rfl ?_
      refine z_aload_n dX10_follows_22 rfl ?_
      refine s_geti f_Mo_92 dX10_follows_23 (by assumption) rfl ?_
      rw [h19]
      refine s_iald dX10_follows_26 a11 (vp_in_nI (by omega) (by decide)) ?_
      rw [nI_clamp (by omega), htx _ hqL]
      refine z_bipush 32 dX10_follows_27 (by decide) ?_
      refine z_icmp_eq 34 dX10_follows_29 (by decide) (fun c29 => ?_) (fun c29 => ?_)
      · refine z_aload_n dX10_follows_34 rfl ?_
        refine z_dup dX10_follows_35 rfl ?_
        refine s_geti f_Mo_92 dX10_follows_36 (by assumption) rfl ?_
        rw [h19]
        refine z_iconst 1 dX10_follows_39 rfl ?_
        refine z_iadd dX10_follows_40 ?_
        rw [nI_1]
        refine s_puti f_Mo_92 dX10_follows_41 (by assumption) rfl ⟨rfl, rfl⟩ ?_
        refine z_aload_n dX10_follows_44 rfl ?_
        refine s_callV1 l_Mo_120 (C_Mo_word (p := q + 1) hM ((zi_sik (by decide)).trans h13) htx hL zi_si (by omega)) m0 dX10_follows_45 rfl rfl (Nat.le_of_ble_eq_true rfl) ⟨⟨by decide, by decide⟩, by decide, by decide⟩ ?_
        refine z_iload_n dX10_follows_48 rfl ?_
        refine z_icmp_ne 56 dX10_follows_49 (by decide) (fun c49 => ?_) (fun c49 => ?_)
        · have hJ : (decide (pc.2 = -1) && decide (sgn tx L pc.1 = 32) && isW tx L (pc.1 + 1) i) = false := by
            rw [← hqe, show isW tx L (q + 1) i = false from eq_false_of_ne_true (fun e => c49 (((wv_is hi).mpr e).trans hy.symm)), Bool.and_false]
          refine z_iconst 0 dX10_follows_56 rfl ?_
          refine z_istore_n (lv' := [_, _, _]) dX10_follows_57 (by decide) rfl ?_
          refine z_aload_n dX10_follows_58 rfl ?_
          refine z_dup dX10_follows_59 rfl ?_
          refine s_geti f_Mo_92 dX10_follows_60 (by assumption) rfl ?_
          rw [zi_si]
          refine z_iconst 1 dX10_follows_63 rfl ?_
          refine z_isub dX10_follows_64 ?_
          rw [nI_pred]
          refine s_puti f_Mo_92 dX10_follows_65 (by assumption) rfl ⟨rfl, rfl⟩ ?_
          refine z_iload_n dX10_follows_68 rfl ?_
          refine z_ireturn dX10_follows_69 rfl rfl ⟨Nat.le_refl _, Nat.le_refl _⟩ ?_
          rw [hJ]
          exact ⟨rfl, _, rfl, rfl, (mS.set (Or.inl rfl)).tr (mS.set (Or.inl rfl)), (h.spot (p := q + 1) (p' := q + 1) (by omega) (fun _ => rfl)).spot (p := q) (p' := pc.1) hq (fun _ => hqe)⟩
        · have hJ : (decide (pc.2 = -1) && decide (sgn tx L pc.1 = 32) && isW tx L (pc.1 + 1) i) = true := by rw [decide_eq_true hm, ← hqe, hsg, decide_eq_true c29, (wv_is hi).mp (c49.trans hy)]; rfl
          refine z_iconst 1 dX10_follows_52 rfl ?_
          refine z_goto 57 dX10_follows_53 (by decide) ?_
          refine z_istore_n (lv' := [_, _, _]) dX10_follows_57 (by decide) rfl ?_
          refine z_aload_n dX10_follows_58 rfl ?_
          refine z_dup dX10_follows_59 rfl ?_
          refine s_geti f_Mo_92 dX10_follows_60 (by assumption) rfl ?_
          rw [zi_si]
          refine z_iconst 1 dX10_follows_63 rfl ?_
          refine z_isub dX10_follows_64 ?_
          rw [nI_pred]
          refine s_puti f_Mo_92 dX10_follows_65 (by assumption) rfl ⟨rfl, rfl⟩ ?_
          refine z_iload_n dX10_follows_68 rfl ?_
          refine z_ireturn dX10_follows_69 rfl rfl ⟨Nat.le_refl _, Nat.le_refl _⟩ ?_
          rw [hJ]
          exact ⟨rfl, _, rfl, rfl, (mS.set (Or.inl rfl)).tr (mS.set (Or.inl rfl)), (h.spot (p := q + 1) (p' := q + 1) (by omega) (fun _ => rfl)).spot (p := q) (p' := pc.1) hq (fun _ => hqe)⟩
      · have hJ : (decide (pc.2 = -1) && decide (sgn tx L pc.1 = 32) && isW tx L (pc.1 + 1) i) = false := by rw [← hqe, hsg, decide_eq_false c29, Bool.and_false]; rfl
        refine z_iconst 0 dX10_follows_32 rfl ?_
        refine z_ireturn dX10_follows_33 rfl rfl ⟨Nat.le_refl _, Nat.le_refl _⟩ ?_
        rw [hJ]
        exact ⟨rfl, _, rfl, rfl, mS.rf, h⟩
theorem mP.ple {s : PS} (h : mP S m L tx k C s) (hf : s.f = -1) : s.p ≤ L := by
  obtain ⟨c, ⟨h13, htx, h4, h22, h5, h20, h21, q, h19, hq, hqs⟩, -⟩ := h
  have := hqs hf
  have e : q = s.p := this
  omega
theorem L_mboth {F : zFin} {sz : Nat} (hM : tMo sh m) (hk : k < 8) (hL : L ≤ 100) (hD : 4 ≤ D) (hX : FacM G sh m_Mo_factor m k L tx D w b X) (hkX : ∀ s, keepC L s.c (X s).c) (hokX : okX L b X) (hC : 61 + b ≤ C) (hC2 : C ≤ 1000) :
    ∀ d S s z z3, (s.f = -1 → L ≤ s.p + d) → psS m k S0 S → mP S m L tx k C s → (s.f = -1 → z = nI (60 * k + (s.n - 1))) → (∀ S' z z3, psS m k S0 S' → mP S' m L tx k C (pLoop tx L 1 5 X d s) → ((pLoop tx L 1 5 X d s).f = -1 → z = nI (60 * k + ((pLoop tx L 1 5 X d s).n - 1))) → zW G m_Mo_both (zRm (D + 1) 0 0) F 0 0 60 [some (.ref m), some (.int w), some (.int z), z3] [] (zhp sh S') sz) → zW G m_Mo_both (zRm (D + 1) 0 0) F 0 0 6 [some (.ref m), some (.int w), some (.int z), z3] [] (zhp sh S) sz := by
  intro d
  have wl2 := wln_pos 1 (by decide)
  have m0 := hM.1
  induction d with
  | zero =>
    intro S s z z3 h1 h2 h3 h4 kk
    obtain ⟨c, hc, hn, hf⟩ := id h3
    have hj : isJ tx L 1 s.c = false := by
      by_cases q : s.f = -1
      · unfold isJ
        rw [show sgn tx L s.c.1 = -1 from if_neg (by have := h1 q; show ¬ s.p < L; omega), decide_eq_false (show ¬ (-1 : Int32) = 32 by decide), Bool.and_false]
        rfl
      · unfold isJ
        rw [decide_eq_false (show ¬ s.c.2 = -1 from q)]
        rfl
    refine z_aload_n dX10_both_6 rfl ?_
    refine z_sipush 1476 dX10_both_7 (by decide) ?_
    refine n_callV1 l_Mo_140 (C_Mo_follows (i := 1) hM hc hL (by decide) rfl) m0 dX10_both_10 rfl rfl (Nat.le_of_ble_eq_true rfl) (rrm (by omega) (by decide)) (fun S10 q10 => ?_)
    refine z_if_eq 60 dX10_both_13 (by decide) (fun c13 => ?_) (fun c13 => ?_)
    · exact kk _ z _ (h2.tr q10.1.ps) ⟨c, q10.2, fun e => ⟨(hn e).1, (hn e).2.1, q10.1.nd (hn e).2.2⟩, hf⟩ h4
    · exact (zoF hj c13).elim
  | succ d ih =>
    intro S s z z3 h1 h2 h3 h4 kk
    obtain ⟨c, hc, hn, hf⟩ := id h3
    have st : pLoop tx L 1 5 X (d + 1) s = if isJ tx L 1 s.c = true then pLoop tx L 1 5 X d (pJn tx L 1 5 X s) else s := rfl
    refine z_aload_n dX10_both_6 rfl ?_
    refine z_sipush 1476 dX10_both_7 (by decide) ?_
    refine n_callV1 l_Mo_140 (C_Mo_follows (i := 1) hM hc hL (by decide) rfl) m0 dX10_both_10 rfl rfl (Nat.le_of_ble_eq_true rfl) (rrm (by omega) (by decide)) (fun S10 q10 => ?_)
    refine z_if_eq 60 dX10_both_13 (by decide) (fun c13 => ?_) (fun c13 => ?_)
    · rw [if_neg (fun e => zoT e c13)] at st
      rw [st] at kk
      exact kk _ z _ (h2.tr q10.1.ps) ⟨c, q10.2, fun e => ⟨(hn e).1, (hn e).2.1, q10.1.nd (hn e).2.2⟩, hf⟩ h4
    · have hJ := zo_ne0.mp c13
      rw [if_pos hJ] at st
      obtain ⟨j1, j2, j3, j4, j5⟩ := isJ_in (by decide) hJ
      have hfs : s.f = -1 := j1
      obtain ⟨hcn, hnp, hnd⟩ := hn hfs
      obtain ⟨y13, ytx, y4, y22, y5, y20, y21, q1, y19, yq, yqs⟩ := id q10.2
      have yqs : q1 = s.p := yqs j1
      have j5' : s.p + 1 + wln 1 ≤ L := j5
      have g1 := q10.2.spot (p := s.p + 1) (p' := s.p + 1) (by omega) (fun _ => rfl)
      have g2 := g1.spot (p := s.p + 1 + wln 1) (p' := s.p + 1 + wln 1) j5' (fun _ => rfl)
      have hE := isW_wE (tx := tx) (L := L) (p := s.p + 1) (by decide) j3
      have hpl := h3.ple hfs
      refine z_aload_n dX10_both_16 rfl ?_
      refine z_dup dX10_both_17 rfl ?_
      refine s_geti f_Mo_92 dX10_both_18 (by assumption) rfl ?_
      refine z_iconst 1 dX10_both_21 rfl ?_
      refine z_iadd dX10_both_22 ?_
      rw [y19, yqs, nI_1]
      refine s_puti f_Mo_92 dX10_both_23 (by assumption) rfl ⟨rfl, rfl⟩ ?_
      refine z_aload_n dX10_both_26 rfl ?_
      refine z_aload_n dX10_both_27 rfl ?_
      refine s_callV1 l_Mo_103 (C_Mo_wordEnd (p := s.p + 1) hM ((zi_sik (by decide)).trans y13) ytx hL zi_si (by omega)) m0 dX10_both_28 rfl rfl (Nat.le_of_ble_eq_true rfl) (rrm (by omega) (by decide)) ?_
      rw [hE]
      refine s_puti f_Mo_92 dX10_both_31 (by assumption) rfl ⟨rfl, rfl⟩ ?_
      refine z_aload_n dX10_both_34 rfl ?_
      refine z_bipush 32 dX10_both_35 (by decide) ?_
      refine n_callV0 l_Mo_117 (C_Mo_must hM g2 hL (by decide)) m0 dX10_both_37 rfl rfl (Nat.le_of_ble_eq_true rfl) (rrm (by omega) (by decide)) (fun S37 q37 => ?_)
      have e37 : cPass tx L 32 (s.p + 1 + wln 1, (s.p + 1, s.c.2).2) = cPJ tx L 1 s.c := j4.symm
      rw [e37] at q37
      have m37 := q10.1.tr ((mS.set (Or.inl rfl)).tr ((mS.set (Or.inl rfl)).tr q37.1))
      have kp : s.p + 1 + wln 1 ≤ (cPJ tx L 1 s.c).1 := by rw [← e37]; exact ((cPass_k (tx := tx) (L := L) (c := 32) (by decide) (s.p + 1 + wln 1, s.c.2)).1 j5').1
      have hPt : mP S37 m L tx k (C - 1) (psC (cPJ tx L 1 s.c) s) := mP.pc q37.2 m37 hcn hnd (fun _ => by omega) (by omega)
      refine z_aload_n dX10_both_40 rfl ?_
      refine z_iload_n dX10_both_41 rfl ?_
      refine s_callV l_Mo_134 (hX (C - 1) S37 (psC (cPJ tx L 1 s.c) s) (by omega) (by omega) hPt) m0 dX10_both_42 rfl rfl (Nat.le_of_ble_eq_true rfl) (rrm (by omega) (by decide)) (fun r42 S42 q42 => ?_)
      obtain ⟨v1, ⟨c2, v2, v3, v4⟩, z', rfl, v5⟩ := q42
      have kX := hkX (psC (cPJ tx L 1 s.c) s)
      have hOK : (X (psC (cPJ tx L 1 s.c) s)).c.2 = -1 → c2 = (X (psC (cPJ tx L 1 s.c) s)).n ∧ (X (psC (cPJ tx L 1 s.c) s)).n < 60 ∧ rNd S42 m (60 * k) (X (psC (cPJ tx L 1 s.c) s)).n (X (psC (cPJ tx L 1 s.c) s)).nd ∧ 2 * ((X (psC (cPJ tx L 1 s.c) s)).n + 1) ≤ (X (psC (cPJ tx L 1 s.c) s)).c.1 ∧ ndM (60 * k) (5, 0, 0, 0, s.n - 1, (X (psC (cPJ tx L 1 s.c) s)).n - 1) (nI 5) 0 0 0 z z' := fun e => by
        have e : (X (psC (cPJ tx L 1 s.c) s)).f = -1 := e
        obtain ⟨b1, b2, b3⟩ := v3 e
        have hple := hPt.ple (kX.back e)
        have hb := (hokX (psC (cPJ tx L 1 s.c) s) hple e).2
        have hb : (cPJ tx L 1 s.c).1 + 2 * (X (psC (cPJ tx L 1 s.c) s)).n ≤ (X (psC (cPJ tx L 1 s.c) s)).p + 2 * s.n := hb
        have hpX : (X (psC (cPJ tx L 1 s.c) s)).p ≤ L := (kX.1 hple).2
        exact ⟨b1, by omega, b3, by show 2 * ((X (psC (cPJ tx L 1 s.c) s)).n + 1) ≤ (X (psC (cPJ tx L 1 s.c) s)).p; omega, rfl, rfl, rfl, rfl, fun _ => h4 hfs, fun _ => v5 e⟩
      refine z_istore_n (lv' := [_, _, _, _]) dX10_both_45 (by decide) rfl ?_
      refine z_aload_n dX10_both_46 rfl ?_
      refine z_iconst 5 dX10_both_47 rfl ?_
      refine z_iconst 0 dX10_both_48 rfl ?_
      refine z_iconst 0 dX10_both_49 rfl ?_
      refine z_iconst 0 dX10_both_50 rfl ?_
      refine z_iload_n dX10_both_51 rfl ?_
      refine z_iload_n dX10_both_52 rfl ?_
      refine s_callV l_Mo_127 (C_Mo_nodeP (C := C) (n := (X (psC (cPJ tx L 1 s.c) s)).n) (nd := (X (psC (cPJ tx L 1 s.c) s)).nd) (x := (5, 0, 0, 0, s.n - 1, (X (psC (cPJ tx L 1 s.c) s)).n - 1)) hM hk v2 hOK (fun e => by have := v4 e; omega) hC2) m0 dX10_both_53 rfl rfl (Nat.le_of_ble_eq_true rfl) (rrm (by omega) (by decide)) (fun r53 S53 q53 => ?_)
      obtain ⟨n1, n2, z9, rfl, n3⟩ := q53
      refine z_istore_n (lv' := [_, _, _, _]) dX10_both_56 (by decide) rfl ?_
      refine z_goto 6 dX10_both_57 (by decide) ?_
      refine ih _ (pJn tx L 1 5 X s) _ _ (fun e => ?_) (h2.tr (m37.ps.tr (v1.tr n1))) n2 (fun e => ?_) (fun S' z z3 a1 a2 a3 => ?_)
      · have e : (X (psC (cPJ tx L 1 s.c) s)).f = -1 := e
        have k1 := (kX.1 ((hPt.ple (kX.back e)))).1
        have k1 : (cPJ tx L 1 s.c).1 ≤ (X (psC (cPJ tx L 1 s.c) s)).p := k1
        have h1 := h1 hfs
        show L ≤ (X (psC (cPJ tx L 1 s.c) s)).p + d
        omega
      · exact n3 e
      · rw [st] at kk
        exact kk S' z z3 a1 a2 a3
theorem C_Mo_both (hM : tMo sh m) (hk : k < 8) (hL : L ≤ 100) (hD : 4 ≤ D) (hX : FacM G sh m_Mo_factor m k L tx D w b X) (hkX : ∀ s, keepC L s.c (X s).c) (hokX : okX L b X) : FacM G sh m_Mo_both m k L tx (D + 1) w (b + 1) (pB tx L X) := by
  intro C S s hC hC2 h
  have m0 := hM.1
  refine s_meth 2 ⟨p_Mo, rfl, Nat.le_of_ble_eq_true rfl⟩ rfl (fun sz => ?_)
  refine z_aload_n dX10_both_0 rfl ?_
  refine z_iload_n dX10_both_1 rfl ?_
  refine s_callV l_Mo_134 (hX C S s (by omega) hC2 h) m0 dX10_both_2 rfl rfl (Nat.le_of_ble_eq_true rfl) (rrm (by omega) (by decide)) (fun r2 S2 q2 => ?_)
  obtain ⟨v1, v2, z', rfl, v5⟩ := q2
  refine z_istore_n (lv' := [_, _, _, _]) dX10_both_5 (by decide) rfl ?_
  refine L_mboth (S0 := S) hM hk hL hD hX hkX hokX (by omega) hC2 100 _ (X s) z' _ (fun _ => by omega) v1 v2 v5 (fun S' z z3 a1 a2 a3 => ?_)
  refine z_iload_n dX10_both_60 rfl ?_
  refine z_ireturn dX10_both_61 rfl rfl ⟨Nat.le_refl _, Nat.le_refl _⟩ ?_
  exact ⟨rfl, _, rfl, a1, a2, z, rfl, a3⟩
theorem L_meither {F : zFin} {sz : Nat} (hM : tMo sh m) (hk : k < 8) (hL : L ≤ 100) (hD : 4 ≤ D) (hX : FacM G sh m_Mo_both m k L tx D w b X) (hkX : ∀ s, keepC L s.c (X s).c) (hokX : okX L b X) (hC : 61 + b ≤ C) (hC2 : C ≤ 1000) :
    ∀ d S s z z3, (s.f = -1 → L ≤ s.p + d) → psS m k S0 S → mP S m L tx k C s → (s.f = -1 → z = nI (60 * k + (s.n - 1))) → (∀ S' z z3, psS m k S0 S' → mP S' m L tx k C (pLoop tx L 0 6 X d s) → ((pLoop tx L 0 6 X d s).f = -1 → z = nI (60 * k + ((pLoop tx L 0 6 X d s).n - 1))) → zW G m_Mo_either (zRm (D + 1) 0 0) F 0 0 61 [some (.ref m), some (.int w), some (.int z), z3] [] (zhp sh S') sz) → zW G m_Mo_either (zRm (D + 1) 0 0) F 0 0 6 [some (.ref m), some (.int w), some (.int z), z3] [] (zhp sh S) sz := by
  intro d
  have wl2 := wln_pos 0 (by decide)
  have m0 := hM.1
  induction d with
  | zero =>
    intro S s z z3 h1 h2 h3 h4 kk
    obtain ⟨c, hc, hn, hf⟩ := id h3
    have hj : isJ tx L 0 s.c = false := by
      by_cases q : s.f = -1
      · unfold isJ
        rw [show sgn tx L s.c.1 = -1 from if_neg (by have := h1 q; show ¬ s.p < L; omega), decide_eq_false (show ¬ (-1 : Int32) = 32 by decide), Bool.and_false]
        rfl
      · unfold isJ
        rw [decide_eq_false (show ¬ s.c.2 = -1 from q)]
        rfl
    refine z_aload_n dX10_either_6 rfl ?_
    refine z_sipush 498 dX10_either_7 (by decide) ?_
    refine n_callV1 l_Mo_140 (C_Mo_follows (i := 0) hM hc hL (by decide) rfl) m0 dX10_either_10 rfl rfl (Nat.le_of_ble_eq_true rfl) (rrm (by omega) (by decide)) (fun S10 q10 => ?_)
    refine z_if_eq 61 dX10_either_13 (by decide) (fun c13 => ?_) (fun c13 => ?_)
    · exact kk _ z _ (h2.tr q10.1.ps) ⟨c, q10.2, fun e => ⟨(hn e).1, (hn e).2.1, q10.1.nd (hn e).2.2⟩, hf⟩ h4
    · exact (zoF hj c13).elim
  | succ d ih =>
    intro S s z z3 h1 h2 h3 h4 kk
    obtain ⟨c, hc, hn, hf⟩ := id h3
    have st : pLoop tx L 0 6 X (d + 1) s = if isJ tx L 0 s.c = true then pLoop tx L 0 6 X d (pJn tx L 0 6 X s) else s := rfl
    refine z_aload_n dX10_either_6 rfl ?_
    refine z_sipush 498 dX10_either_7 (by decide) ?_
    refine n_callV1 l_Mo_140 (C_Mo_follows (i := 0) hM hc hL (by decide) rfl) m0 dX10_either_10 rfl rfl (Nat.le_of_ble_eq_true rfl) (rrm (by omega) (by decide)) (fun S10 q10 => ?_)
    refine z_if_eq 61 dX10_either_13 (by decide) (fun c13 => ?_) (fun c13 => ?_)
    · rw [if_neg (fun e => zoT e c13)] at st
      rw [st] at kk
      exact kk _ z _ (h2.tr q10.1.ps) ⟨c, q10.2, fun e => ⟨(hn e).1, (hn e).2.1, q10.1.nd (hn e).2.2⟩, hf⟩ h4
    · have hJ := zo_ne0.mp c13
      rw [if_pos hJ] at st
      obtain ⟨j1, j2, j3, j4, j5⟩ := isJ_in (by decide) hJ
      have hfs : s.f = -1 := j1
      obtain ⟨hcn, hnp, hnd⟩ := hn hfs
      obtain ⟨y13, ytx, y4, y22, y5, y20, y21, q1, y19, yq, yqs⟩ := id q10.2
      have yqs : q1 = s.p := yqs j1
      have j5' : s.p + 1 + wln 0 ≤ L := j5
      have g1 := q10.2.spot (p := s.p + 1) (p' := s.p + 1) (by omega) (fun _ => rfl)
      have g2 := g1.spot (p := s.p + 1 + wln 0) (p' := s.p + 1 + wln 0) j5' (fun _ => rfl)
      have hE := isW_wE (tx := tx) (L := L) (p := s.p + 1) (by decide) j3
      have hpl := h3.ple hfs
      refine z_aload_n dX10_either_16 rfl ?_
      refine z_dup dX10_either_17 rfl ?_
      refine s_geti f_Mo_92 dX10_either_18 (by assumption) rfl ?_
      refine z_iconst 1 dX10_either_21 rfl ?_
      refine z_iadd dX10_either_22 ?_
      rw [y19, yqs, nI_1]
      refine s_puti f_Mo_92 dX10_either_23 (by assumption) rfl ⟨rfl, rfl⟩ ?_
      refine z_aload_n dX10_either_26 rfl ?_
      refine z_aload_n dX10_either_27 rfl ?_
      refine s_callV1 l_Mo_103 (C_Mo_wordEnd (p := s.p + 1) hM ((zi_sik (by decide)).trans y13) ytx hL zi_si (by omega)) m0 dX10_either_28 rfl rfl (Nat.le_of_ble_eq_true rfl) (rrm (by omega) (by decide)) ?_
      rw [hE]
      refine s_puti f_Mo_92 dX10_either_31 (by assumption) rfl ⟨rfl, rfl⟩ ?_
      refine z_aload_n dX10_either_34 rfl ?_
      refine z_bipush 32 dX10_either_35 (by decide) ?_
      refine n_callV0 l_Mo_117 (C_Mo_must hM g2 hL (by decide)) m0 dX10_either_37 rfl rfl (Nat.le_of_ble_eq_true rfl) (rrm (by omega) (by decide)) (fun S37 q37 => ?_)
      have e37 : cPass tx L 32 (s.p + 1 + wln 0, (s.p + 1, s.c.2).2) = cPJ tx L 0 s.c := j4.symm
      rw [e37] at q37
      have m37 := q10.1.tr ((mS.set (Or.inl rfl)).tr ((mS.set (Or.inl rfl)).tr q37.1))
      have kp : s.p + 1 + wln 0 ≤ (cPJ tx L 0 s.c).1 := by rw [← e37]; exact ((cPass_k (tx := tx) (L := L) (c := 32) (by decide) (s.p + 1 + wln 0, s.c.2)).1 j5').1
      have hPt : mP S37 m L tx k (C - 1) (psC (cPJ tx L 0 s.c) s) := mP.pc q37.2 m37 hcn hnd (fun _ => by omega) (by omega)
      refine z_aload_n dX10_either_40 rfl ?_
      refine z_iload_n dX10_either_41 rfl ?_
      refine s_callV l_Mo_143 (hX (C - 1) S37 (psC (cPJ tx L 0 s.c) s) (by omega) (by omega) hPt) m0 dX10_either_42 rfl rfl (Nat.le_of_ble_eq_true rfl) (rrm (by omega) (by decide)) (fun r42 S42 q42 => ?_)
      obtain ⟨v1, ⟨c2, v2, v3, v4⟩, z', rfl, v5⟩ := q42
      have kX := hkX (psC (cPJ tx L 0 s.c) s)
      have hOK : (X (psC (cPJ tx L 0 s.c) s)).c.2 = -1 → c2 = (X (psC (cPJ tx L 0 s.c) s)).n ∧ (X (psC (cPJ tx L 0 s.c) s)).n < 60 ∧ rNd S42 m (60 * k) (X (psC (cPJ tx L 0 s.c) s)).n (X (psC (cPJ tx L 0 s.c) s)).nd ∧ 2 * ((X (psC (cPJ tx L 0 s.c) s)).n + 1) ≤ (X (psC (cPJ tx L 0 s.c) s)).c.1 ∧ ndM (60 * k) (6, 0, 0, 0, s.n - 1, (X (psC (cPJ tx L 0 s.c) s)).n - 1) (nI 6) 0 0 0 z z' := fun e => by
        have e : (X (psC (cPJ tx L 0 s.c) s)).f = -1 := e
        obtain ⟨b1, b2, b3⟩ := v3 e
        have hple := hPt.ple (kX.back e)
        have hb := (hokX (psC (cPJ tx L 0 s.c) s) hple e).2
        have hb : (cPJ tx L 0 s.c).1 + 2 * (X (psC (cPJ tx L 0 s.c) s)).n ≤ (X (psC (cPJ tx L 0 s.c) s)).p + 2 * s.n := hb
        have hpX : (X (psC (cPJ tx L 0 s.c) s)).p ≤ L := (kX.1 hple).2
        exact ⟨b1, by omega, b3, by show 2 * ((X (psC (cPJ tx L 0 s.c) s)).n + 1) ≤ (X (psC (cPJ tx L 0 s.c) s)).p; omega, rfl, rfl, rfl, rfl, fun _ => h4 hfs, fun _ => v5 e⟩
      refine z_istore_n (lv' := [_, _, _, _]) dX10_either_45 (by decide) rfl ?_
      refine z_aload_n dX10_either_46 rfl ?_
      refine z_bipush 6 dX10_either_47 (by decide) ?_
      refine z_iconst 0 dX10_either_49 rfl ?_
      refine z_iconst 0 dX10_either_50 rfl ?_
      refine z_iconst 0 dX10_either_51 rfl ?_
      refine z_iload_n dX10_either_52 rfl ?_
      refine z_iload_n dX10_either_53 rfl ?_
      refine s_callV l_Mo_127 (C_Mo_nodeP (C := C) (n := (X (psC (cPJ tx L 0 s.c) s)).n) (nd := (X (psC (cPJ tx L 0 s.c) s)).nd) (x := (6, 0, 0, 0, s.n - 1, (X (psC (cPJ tx L 0 s.c) s)).n - 1)) hM hk v2 hOK (fun e => by have := v4 e; omega) hC2) m0 dX10_either_54 rfl rfl (Nat.le_of_ble_eq_true rfl) (rrm (by omega) (by decide)) (fun r54 S54 q54 => ?_)
      obtain ⟨n1, n2, z9, rfl, n3⟩ := q54
      refine z_istore_n (lv' := [_, _, _, _]) dX10_either_57 (by decide) rfl ?_
      refine z_goto 6 dX10_either_58 (by decide) ?_
      refine ih _ (pJn tx L 0 6 X s) _ _ (fun e => ?_) (h2.tr (m37.ps.tr (v1.tr n1))) n2 (fun e => ?_) (fun S' z z3 a1 a2 a3 => ?_)
      · have e : (X (psC (cPJ tx L 0 s.c) s)).f = -1 := e
        have k1 := (kX.1 ((hPt.ple (kX.back e)))).1
        have k1 : (cPJ tx L 0 s.c).1 ≤ (X (psC (cPJ tx L 0 s.c) s)).p := k1
        have h1 := h1 hfs
        show L ≤ (X (psC (cPJ tx L 0 s.c) s)).p + d
        omega
      · exact n3 e
      · rw [st] at kk
        exact kk S' z z3 a1 a2 a3
theorem C_Mo_either (hM : tMo sh m) (hk : k < 8) (hL : L ≤ 100) (hD : 4 ≤ D) (hX : FacM G sh m_Mo_factor m k L tx D w b X) (hkX : ∀ s, keepC L s.c (X s).c) (hokX : okX L b X) : FacM G sh m_Mo_either m k L tx (D + 1 + 1) w (b + 2) (pE tx L X) := by
  have hB := C_Mo_both hM hk hL hD hX hkX hokX
  intro C S s hC hC2 h
  have m0 := hM.1
  refine s_meth 2 ⟨p_Mo, rfl, Nat.le_of_ble_eq_true rfl⟩ rfl (fun sz => ?_)
  refine z_aload_n dX10_either_0 rfl ?_
  refine z_iload_n dX10_either_1 rfl ?_
  refine s_callV l_Mo_143 (hB C S s (by omega) hC2 h) m0 dX10_either_2 rfl rfl (Nat.le_of_ble_eq_true rfl) (rrm (by omega) (by decide)) (fun r2 S2 q2 => ?_)
  obtain ⟨v1, v2, z', rfl, v5⟩ := q2
  refine z_istore_n (lv' := [_, _, _, _]) dX10_either_5 (by decide) rfl ?_
  refine L_meither (S0 := S) (b := b + 1) hM hk hL (by omega) hB (pB_k hkX) (pB_ok hkX hokX) (by omega) hC2 100 _ (pB tx L X s) z' _ (fun _ => by omega) v1 v2 v5 (fun S' z z3 a1 a2 a3 => ?_)
  refine z_iload_n dX10_either_61 rfl ?_
  refine z_ireturn dX10_either_62 rfl rfl ⟨Nat.le_refl _, Nat.le_refl _⟩ ?_
  exact ⟨rfl, _, rfl, a1, a2, z, rfl, a3⟩
end MOM

