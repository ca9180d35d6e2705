/-! ===== the model: factors, a whole text ===== -/
section QV
variable {tx : Nat → Int32} {L : Nat} {s : PS}
theorem pQ_z1 (h : (zq1 tx L s.c).2.2 ≠ -1) : (pQ tx L s).f = (zq1 tx L s.c).2.2 := by
  have e : (qA tx L s).2 = (zq1 tx L s.c).2.2 := (cPass_k (tx := tx) (L := L) (c := 32) (by decide) (zq1 tx L s.c).2).2 h
  exact (pQ_fA (by rw [e]; exact h)).trans e
theorem isW_40 {p : Nat} (h : isW tx L p 2 = true) : ¬ sgn tx L p = 40 := fun e => by
  have := isW_sg h (k := 0) (by decide)
  rw [Nat.add_zero, e] at this
  exact absurd this (by decide)
theorem isW_23 {p : Nat} (h2 : isW tx L p 2 = true) (h3 : isW tx L p 3 = true) : False := by
  have := ((wv_is (tx := tx) (L := L) (p := p) (i := 2) (by decide)).mpr h2).symm.trans ((wv_is (i := 3) (by decide)).mpr h3)
  exact absurd this (by decide)
end QV
theorem rNd.ps {S S' : zSt} {m k j N : Nat} {nd : Nd} (h : rNd S m (60 * j) N nd) (hp : psS m k S S') (hj : j < k) (hN : N ≤ 60) : rNd S' m (60 * j) N nd := fun i hi => by
  obtain ⟨h1, h2, h3, h4, h5, h6⟩ := h i hi
  have e : ∀ b, 5 ≤ b → b < 11 → za S' (m + b) (60 * j + i) = za S (m + b) (60 * j + i) := fun b b1 b2 => hp.2.2 _ _ (by omega) (by omega) (by omega)
  exact ⟨(e 5 (by decide) (by decide)).trans h1, (e 6 (by decide) (by decide)).trans h2, (e 7 (by decide) (by decide)).trans h3, (e 8 (by decide) (by decide)).trans h4, fun q => (e 9 (by decide) (by decide)).trans (h5 q), fun q => (e 10 (by decide) (by decide)).trans (h6 q)⟩
section MON
variable {G : zG} {sh : Nat → Option zSh} {S S0 : zSt} {m L k c C b d D De Df bE bX : Nat} {tx : Nat → Int32} {s : PS} {E X : PS → PS}
theorem C_Mo_factor (hM : tMo sh m) (hk : k < 8) (hL : L ≤ 100) (hD : 6 ≤ D) (hd6 : d ≤ 6) (hDe : De + 1 ≤ D) (hDf : Df + 1 ≤ D) (hE : d ≠ 0 → FacM G sh m_Mo_either m k L tx De (nI (6 - d + 1)) bE E) (hX : d ≠ 0 → FacM G sh m_Mo_factor m k L tx Df (nI (6 - d + 1)) bX X) (hkE : ∀ s, keepC L s.c (E s).c) (hkX : ∀ s, keepC L s.c (X s).c) (hokX : d ≠ 0 → okX L bX X) (hbE : bE ≤ b) (hbX : d ≠ 0 → bX + 1 ≤ b) (hb1 : 1 ≤ b) : FacM G sh m_Mo_factor m k L tx D (nI (6 - d)) b (pFac tx L d E X) := by
  intro C S s hC hC2 h
  obtain ⟨m0, a1, a2, a3, a4, a5, a6, a7, a8, a9, a10, a11, a12, a13, a14, a15, a16, a22⟩ := id hM
  obtain ⟨c, hc, hn, hf⟩ := id h
  obtain ⟨h13, htx, h4, h22, h5, h20, h21, q, h19, hq, hqs⟩ := id hc
  have main : s.f = -1 → zR G m_Mo_factor D sh [.ref m, .int (nI (6 - d))] S (qPost m L tx k C S (pFac tx L d E X s)) := by
    intro hfs
    obtain ⟨hcn, hnp, hnd⟩ := hn hfs
    have hqe : q = s.p := hqs hfs
    subst hqe
    have hple : s.p ≤ L := hq
    have wr0 := hc.wr (y := nI s.p) (nI_pos' (by omega))
    have bad : pFac tx L d E X s = psC (s.p, bl s.f (nI s.p)) s ∨ (pFac tx L d E X s).f = bl s.f (nI s.p) → qPost m L tx k C S (pFac tx L d E X s) (some (.int 0)) (zsi S m 20 (bl s.c.2 (nI s.p))) := fun e => by
      have e : (pFac tx L d E X s).f = bl s.f (nI s.p) := e.elim (fun z => by rw [z]; rfl) id
      have hne : bl s.f (nI s.p) ≠ -1 := bl_n (by omega)
      exact ⟨(mS.set (Or.inr (Or.inl rfl))).ps, ⟨c, wr0.any hne e, fun g => absurd (e.symm.trans g) hne, fun _ => by omega⟩, 0, rfl, fun g => absurd (e.symm.trans g) hne⟩
    refine s_meth 2 ⟨p_Mo, rfl, Nat.le_of_ble_eq_true rfl⟩ rfl (fun sz => ?_)
    have k194 : ∀ z3, (isW tx L s.p 2 = true → d = 0) → ¬ isW tx L s.p 3 = true → ¬ sgn tx L s.p = 40 → zW G m_Mo_factor (zRm D 0 0) (zFm G (zP sh sz (qPost m L tx k C S (pFac tx L d E X s))) 0 0) 0 0 194 [some (.ref m), some (.int (nI (6 - d))), some (.int (wV tx L s.p)), z3] [] (zhp sh S) sz := by
      intro z3 f2 f3 f4
      refine z_iload_n dX10_factor_194 rfl ?_
      refine z_iconst 1 dX10_factor_195 rfl ?_
      refine z_iconst 4 dX10_factor_196 rfl ?_
      refine s_callS1 l_Mo_63 (C_Mo_in) dX10_factor_197 rfl rfl (Nat.le_of_ble_eq_true rfl) (rrm (by omega) (by decide)) ?_
      refine z_if_eq 211 dX10_factor_200 (by decide) (fun c200 => ?_) (fun c200 => ?_)
      · refine z_aload_n dX10_factor_211 rfl ?_
        refine z_aload_n dX10_factor_212 rfl ?_
        refine s_geti f_Mo_92 dX10_factor_213 (by assumption) rfl ?_
        rw [h19]
        refine s_callV0 l_Mo_99 (C_Mo_wrong hM hc) m0 dX10_factor_216 rfl rfl (Nat.le_of_ble_eq_true rfl) (rrm (by omega) (by decide)) ?_
        refine z_iconst 0 dX10_factor_219 rfl ?_
        refine z_ireturn dX10_factor_220 rfl rfl ⟨Nat.le_refl _, Nat.le_refl _⟩ ?_
        refine ⟨rfl, _, rfl, bad ?_⟩
        by_cases g2 : isW tx L s.p 2 = true
        · exact Or.inl (pFac_1 hfs ⟨Or.inl g2, f2 g2⟩)
        · right
          rw [pFac_5 hfs g2 f4 f3]
          have z1 : zq1 tx L s.c = (-1, s.c.1, bl s.c.2 (nI s.c.1)) := if_neg (fun g => zoT (decide_eq_true (wv_col.mpr g)) c200)
          have hne : (zq1 tx L s.c).2.2 ≠ -1 := by rw [z1]; exact bl_n (by show s.p < 2 ^ 31; omega)
          rw [pQ_z1 hne, z1]
      · have hcol := (wv_col (tx := tx) (L := L) (p := s.p)).mp (of_decide_eq_true (zo_ne0.mp c200))
        have hN2 : ¬ isW tx L s.p 2 = true := fun e => by
          have := isW_sg e (k := 0) (by decide)
          rw [Nat.add_zero] at this
          rw [this] at hcol
          exact absurd hcol.1.2 (by decide)
        have ep := pFac_5 (d := d) (E := E) (X := X) hfs hN2 f4 f3
        refine z_aload_n dX10_factor_203 rfl ?_
        refine z_iload_n dX10_factor_204 rfl ?_
        refine z_iconst 1 dX10_factor_205 rfl ?_
        refine z_isub dX10_factor_206 ?_
        rw [wv_colv hcol]
        refine s_callV l_Mo_137 (C_Mo_columnHere (C := C) hM hk hL h hfs hcol (by omega) hC2) m0 dX10_factor_207 rfl rfl (Nat.le_of_ble_eq_true rfl) (rrm (by omega) (by decide)) (fun r207 S207 q207 => ?_)
        obtain ⟨v1, v2, z', rfl, v5⟩ := q207
        refine z_ireturn dX10_factor_210 rfl rfl ⟨Nat.le_refl _, Nat.le_refl _⟩ ?_
        rw [ep]
        exact ⟨rfl, _, rfl, v1, v2, z', rfl, v5⟩
    have k117 : ∀ z2 z3, ¬ sgn tx L s.p = 40 → zW G m_Mo_factor (zRm D 0 0) (zFm G (zP sh sz (qPost m L tx k C S (pFac tx L d E X s))) 0 0) 0 0 117 [some (.ref m), some (.int (nI (6 - d))), z2, z3] [] (zhp sh S) sz := by
      intro z2 z3 f4
      refine z_aload_n dX10_factor_117 rfl ?_
      refine s_callV1 l_Mo_120 (C_Mo_word (p := s.p) hM h13 htx hL h19 hple) m0 dX10_factor_118 rfl rfl (Nat.le_of_ble_eq_true rfl) (rrm (by omega) (by decide)) ?_
      refine z_istore_n (lv' := [_, _, _, _]) dX10_factor_121 (by decide) rfl ?_
      refine z_iload_n dX10_factor_122 rfl ?_
      refine z_sipush 1420 dX10_factor_123 (by decide) ?_
      refine z_icmp_ne 148 dX10_factor_126 (by decide) (fun c126 => ?_) (fun c126 => ?_)
      · have hN3 : ¬ isW tx L s.p 3 = true := fun e => c126 ((wv_is (i := 3) (by decide)).mpr e)
        refine z_iload_n dX10_factor_148 rfl ?_
        refine z_sipush 14836 dX10_factor_149 (by decide) ?_
        refine z_icmp_ne 194 dX10_factor_152 (by decide) (fun c152 => ?_) (fun c152 => ?_)
        · have hN2 : ¬ isW tx L s.p 2 = true := fun e => c152 ((wv_is (i := 2) (by decide)).mpr e)
          have hd2 : isW tx L s.p 2 = true → d = 0 := fun e => absurd e hN2
          exact k194 _ hd2 hN3 f4
        · have hW2 := (wv_is (tx := tx) (L := L) (p := s.p) (i := 2) (by decide)).mp c152
          refine z_iload_n dX10_factor_155 rfl ?_
          refine z_bipush 6 dX10_factor_156 (by decide) ?_
          refine z_icmp_ge 194 dX10_factor_158 (by decide) (fun c158 => ?_) (fun c158 => ?_)
          · have hd0 := i_le (a := 6) (by decide) (by omega) c158
            have hd2 : isW tx L s.p 2 = true → d = 0 := fun _ => by omega
            exact k194 _ hd2 hN3 f4
          · have hd1 := i_nle (a := 6) (by omega) c158
            have hd0 : d ≠ 0 := by omega
            have hbX := hbX hd0
            have ep := pFac_2 (d := d) (E := E) (X := X) hfs (fun z => hd0 z.2) hW2
            have hin := isW_in (by decide) hW2
            have hin : s.p + 3 ≤ L := hin
            have hwE := isW_wE (tx := tx) (L := L) (by decide) hW2
            have g3 := hc.spot (p := s.p + 3) (p' := s.p + 3) hin (fun _ => rfl)
            refine z_aload_n dX10_factor_161 rfl ?_
            refine z_aload_n dX10_factor_162 rfl ?_
            refine s_callV1 l_Mo_103 (C_Mo_wordEnd (p := s.p) hM h13 htx hL h19 hple) m0 dX10_factor_163 rfl rfl (Nat.le_of_ble_eq_true rfl) (rrm (by omega) (by decide)) ?_
            rw [show wE tx L s.p = s.p + 3 from hwE]
            refine s_puti f_Mo_92 dX10_factor_166 (by assumption) rfl ⟨rfl, rfl⟩ ?_
            refine z_aload_n dX10_factor_169 rfl ?_
            refine z_bipush 32 dX10_factor_170 (by decide) ?_
            refine n_callV0 l_Mo_117 (C_Mo_must hM g3 hL (by decide)) m0 dX10_factor_172 rfl rfl (Nat.le_of_ble_eq_true rfl) (rrm (by omega) (by decide)) (fun S172 q172 => ?_)
            have m172 := (mS.set (Or.inl rfl)).tr q172.1
            have kp : s.p + 3 ≤ (cPass tx L 32 (s.p + 3, s.f)).1 := ((cPass_k (tx := tx) (L := L) (c := 32) (by decide) (s.p + 3, s.f)).1 hin).1
            have hPt : mP S172 m L tx k (C - 1) (psC (cPass tx L 32 (s.p + 3, s.f)) s) := mP.pc q172.2 m172 hcn hnd (fun _ => by omega) (by omega)
            refine z_aload_n dX10_factor_175 rfl ?_
            refine z_iload_n dX10_factor_176 rfl ?_
            refine z_iconst 1 dX10_factor_177 rfl ?_
            refine z_iadd dX10_factor_178 ?_
            rw [nI_1]
            refine s_callV l_Mo_134 (hX hd0 (C - 1) S172 (psC (cPass tx L 32 (s.p + 3, s.f)) s) (by omega) (by omega) hPt) m0 dX10_factor_179 rfl rfl (Nat.le_of_ble_eq_true rfl) (rrm (by omega) (by decide)) (fun r179 S179 q179 => ?_)
            obtain ⟨v1, ⟨c2, v2, v3, v4⟩, z', rfl, v5⟩ := q179
            have kX := hkX (psC (cPass tx L 32 (s.p + 3, s.f)) s)
            have hOK : (X (psC (cPass tx L 32 (s.p + 3, s.f)) s)).c.2 = -1 → c2 = (X (psC (cPass tx L 32 (s.p + 3, s.f)) s)).n ∧ (X (psC (cPass tx L 32 (s.p + 3, s.f)) s)).n < 60 ∧ rNd S179 m (60 * k) (X (psC (cPass tx L 32 (s.p + 3, s.f)) s)).n (X (psC (cPass tx L 32 (s.p + 3, s.f)) s)).nd ∧ 2 * ((X (psC (cPass tx L 32 (s.p + 3, s.f)) s)).n + 1) ≤ (X (psC (cPass tx L 32 (s.p + 3, s.f)) s)).c.1 ∧ ndM (60 * k) (4, 0, 0, 0, (X (psC (cPass tx L 32 (s.p + 3, s.f)) s)).n - 1, 0) (nI 4) 0 0 0 z' 0 := fun e => by
              have e : (X (psC (cPass tx L 32 (s.p + 3, s.f)) s)).f = -1 := e
              obtain ⟨b1, b2, b3⟩ := v3 e
              have hple := hPt.ple (kX.back e)
              have hb := (hokX hd0 (psC (cPass tx L 32 (s.p + 3, s.f)) s) hple e).2
              have hb : (cPass tx L 32 (s.p + 3, s.f)).1 + 2 * (X (psC (cPass tx L 32 (s.p + 3, s.f)) s)).n ≤ (X (psC (cPass tx L 32 (s.p + 3, s.f)) s)).p + 2 * s.n := hb
              have hpX : (X (psC (cPass tx L 32 (s.p + 3, s.f)) s)).p ≤ L := (kX.1 hple).2
              exact ⟨b1, by omega, b3, by show 2 * ((X (psC (cPass tx L 32 (s.p + 3, s.f)) s)).n + 1) ≤ (X (psC (cPass tx L 32 (s.p + 3, s.f)) s)).p; omega, rfl, rfl, rfl, rfl, fun _ => v5 e, fun g => absurd g (by show ¬ 5 ≤ 4; decide)⟩
            refine z_istore_n (lv' := [_, _, _, _]) dX10_factor_182 (by decide) rfl ?_
            refine z_aload_n dX10_factor_183 rfl ?_
            refine z_iconst 4 dX10_factor_184 rfl ?_
            refine z_iconst 0 dX10_factor_185 rfl ?_
            refine z_iconst 0 dX10_factor_186 rfl ?_
            refine z_iconst 0 dX10_factor_187 rfl ?_
            refine z_iload_n dX10_factor_188 rfl ?_
            refine z_iconst 0 dX10_factor_189 rfl ?_
            refine s_callV l_Mo_127 (C_Mo_nodeP (C := C) (n := (X (psC (cPass tx L 32 (s.p + 3, s.f)) s)).n) (nd := (X (psC (cPass tx L 32 (s.p + 3, s.f)) s)).nd) (x := (4, 0, 0, 0, (X (psC (cPass tx L 32 (s.p + 3, s.f)) s)).n - 1, 0)) hM hk v2 hOK (fun e => by have := v4 e; omega) hC2) m0 dX10_factor_190 rfl rfl (Nat.le_of_ble_eq_true rfl) (rrm (by omega) (by decide)) (fun r190 S190 q190 => ?_)
            obtain ⟨n1, n2, z9, rfl, n3⟩ := q190
            refine z_ireturn dX10_factor_193 rfl rfl ⟨Nat.le_refl _, Nat.le_refl _⟩ ?_
            rw [ep]
            exact ⟨rfl, _, rfl, m172.ps.tr (v1.tr n1), n2, z9, rfl, n3⟩
      · have hW3 := (wv_is (tx := tx) (L := L) (p := s.p) (i := 3) (by decide)).mp c126
        have hN2 : ¬ isW tx L s.p 2 = true := fun e => isW_23 e hW3
        have ep := pFac_4 (d := d) (E := E) (X := X) hfs hN2 f4 hW3
        have hin := isW_in (by decide) hW3
        have hin : s.p + 3 ≤ L := hin
        have hwE := isW_wE (tx := tx) (L := L) (by decide) hW3
        have g3 := hc.spot (p := s.p + 3) (p' := s.p + 3) hin (fun _ => rfl)
        refine z_aload_n dX10_factor_129 rfl ?_
        refine z_aload_n dX10_factor_130 rfl ?_
        refine s_callV1 l_Mo_103 (C_Mo_wordEnd (p := s.p) hM h13 htx hL h19 hple) m0 dX10_factor_131 rfl rfl (Nat.le_of_ble_eq_true rfl) (rrm (by omega) (by decide)) ?_
        rw [show wE tx L s.p = s.p + 3 from hwE]
        refine s_puti f_Mo_92 dX10_factor_134 (by assumption) rfl ⟨rfl, rfl⟩ ?_
        refine z_aload_n dX10_factor_137 rfl ?_
        refine z_iconst 0 dX10_factor_138 rfl ?_
        refine z_iconst 0 dX10_factor_139 rfl ?_
        refine z_iconst 0 dX10_factor_140 rfl ?_
        refine z_iconst 0 dX10_factor_141 rfl ?_
        refine z_iconst 0 dX10_factor_142 rfl ?_
        refine z_iconst 0 dX10_factor_143 rfl ?_
        refine s_callV l_Mo_127 (C_Mo_nodeP (C := C) (n := s.n) (nd := s.nd) (x := (0, 0, 0, 0, 0, 0)) hM hk g3 (fun _ => ⟨hcn, by omega, (mS.set (Or.inl rfl)).nd hnd, by show 2 * (s.n + 1) ≤ s.p + 3; omega, rfl, rfl, rfl, rfl, fun g => absurd g (by show ¬ 4 ≤ 0; decide), fun g => absurd g (by show ¬ 5 ≤ 0; decide)⟩) (fun _ => by omega) hC2) m0 dX10_factor_144 rfl rfl (Nat.le_of_ble_eq_true rfl) (rrm (by omega) (by decide)) (fun r144 S144 q144 => ?_)
        obtain ⟨n1, n2, z9, rfl, n3⟩ := q144
        refine z_ireturn dX10_factor_147 rfl rfl ⟨Nat.le_refl _, Nat.le_refl _⟩ ?_
        rw [ep]
        exact ⟨rfl, _, rfl, (mS.set (Or.inl rfl)).ps.tr n1, n2, z9, rfl, n3⟩
    refine z_aload_n dX10_factor_0 rfl ?_
    refine s_geti f_Mo_89 dX10_factor_1 (by assumption) rfl ?_
    refine z_if_lt 9 dX10_factor_4 (by decide) (fun c4 => ?_) (fun c4 => ?_)
    · refine z_aload_n dX10_factor_9 rfl ?_
      refine z_aload_n dX10_factor_10 rfl ?_
      refine s_geti f_Mo_92 dX10_factor_11 (by assumption) rfl ?_
      rw [h19]
      refine s_callV1 l_Mo_95 (C_Mo_signAt (p := s.p) hM h13 htx hL (by omega)) m0 dX10_factor_14 rfl rfl (Nat.le_of_ble_eq_true rfl) (rrm (by omega) (by decide)) ?_
      refine z_bipush 40 dX10_factor_17 (by decide) ?_
      refine z_icmp_ne 117 dX10_factor_19 (by decide) (fun c19 => ?_) (fun c19 => ?_)
      · have hs40 : ¬ sgn tx L s.p = 40 := fun z => by
          by_cases g : s.p < L
          · rw [if_pos g] at c19
            exact c19 ((if_pos g).symm.trans z)
          · exact absurd ((if_neg g).symm.trans z) (by decide)
        exact k117 _ _ hs40
      · refine z_aload_n dX10_factor_22 rfl ?_
        refine s_geti f_Mo_92 dX10_factor_23 (by assumption) rfl ?_
        refine z_aload_n dX10_factor_26 rfl ?_
        refine s_geti f_Mo_85 dX10_factor_27 (by assumption) rfl ?_
        rw [h19, h13]
        refine z_icmp_ge 117 dX10_factor_30 (by decide) (fun c30 => ?_) (fun c30 => ?_)
        · have hqL := i_le (by omega) (by omega) c30
          have hs40 : ¬ sgn tx L s.p = 40 := fun z => absurd ((if_neg (by omega)).symm.trans z) (by decide)
          exact k117 _ _ hs40
        · have hqL := i_nle (by omega) c30
          rw [if_pos hqL] at c19
          have hs40 : sgn tx L s.p = 40 := (if_pos hqL).trans c19
          refine z_iload_n dX10_factor_33 rfl ?_
          refine z_bipush 6 dX10_factor_34 (by decide) ?_
          refine z_icmp_ne 49 dX10_factor_36 (by decide) (fun c36 => ?_) (fun c36 => ?_)
          · have hd0 : d ≠ 0 := fun e => c36 (by rw [e]; rfl)
            have hN2 : ¬ isW tx L s.p 2 = true := fun e => isW_40 e hs40
            have ep := pFac_3 (d := d) (E := E) (X := X) hfs (fun z => hd0 z.2) hN2 hs40
            have e40 : cPass tx L 40 s.c = (s.p + 1, s.f) := if_pos hs40
            have g1 := hc.spot (p := s.p + 1) (p' := s.p + 1) (by omega) (fun _ => rfl)
            have hPt : mP (zsi S m 19 (nI (s.p + 1))) m L tx k C (psC (cPass tx L 40 s.c) s) := mP.pc (by rw [e40]; exact g1) (mS.set (Or.inl rfl)) hcn hnd (fun _ => by rw [e40]; show 2 * s.n ≤ s.p + 1; omega) (by omega)
            refine z_aload_n dX10_factor_49 rfl ?_
            refine z_dup dX10_factor_50 rfl ?_
            refine s_geti f_Mo_92 dX10_factor_51 (by assumption) rfl ?_
            refine z_iconst 1 dX10_factor_54 rfl ?_
            refine z_iadd dX10_factor_55 ?_
            rw [h19, nI_1]
            refine s_puti f_Mo_92 dX10_factor_56 (by assumption) rfl ⟨rfl, rfl⟩ ?_
            refine z_aload_n dX10_factor_59 rfl ?_
            refine z_iload_n dX10_factor_60 rfl ?_
            refine z_iconst 1 dX10_factor_61 rfl ?_
            refine z_iadd dX10_factor_62 ?_
            rw [nI_1]
            refine s_callV l_Mo_131 (hE hd0 C (zsi S m 19 (nI (s.p + 1))) (psC (cPass tx L 40 s.c) s) (by omega) hC2 hPt) m0 dX10_factor_63 rfl rfl (Nat.le_of_ble_eq_true rfl) (rrm (by omega) (by decide)) (fun r63 S63 q63 => ?_)
            obtain ⟨v1, ⟨c2, v2, v3, v4⟩, z', rfl, v5⟩ := q63
            have kE := hkE (psC (cPass tx L 40 s.c) s)
            have v1' := (mS.set (m := m) (S := S) (v := nI (s.p + 1)) (Or.inl rfl)).ps.tr v1
            rw [ep]
            have hpE : (E (psC (cPass tx L 40 s.c) s)).f = -1 → (E (psC (cPass tx L 40 s.c) s)).p ≤ L := fun e => (kE.1 (hPt.ple (kE.back e))).2
            generalize E (psC (cPass tx L 40 s.c) s) = et at *
            obtain ⟨y13, ytx, y4, y22, y5, y20, y21, q2, y19, yq, yqs⟩ := id v2
            have fin : ∀ S9, mS m S63 S9 → mC S9 m L tx k c2 (cClose tx L et.c) → qPost m L tx k C S (psC (cClose tx L et.c) et) (some (.int z')) S9 := fun S9 w1 w2 => by
              have kc := cClose_k (tx := tx) (L := L) et.c
              refine ⟨v1'.tr w1.ps, ⟨c2, w2, fun e => ?_, fun e => ?_⟩, z', rfl, fun e => v5 (kc.back e)⟩
              · have e1 : et.f = -1 := kc.back e
                obtain ⟨a1, a2, a3⟩ := v3 e1
                have := (kc.1 (hpE e1)).1
                have : et.p ≤ (cClose tx L et.c).1 := this
                exact ⟨a1, by show 2 * et.n ≤ (cClose tx L et.c).1; omega, w1.nd a3⟩
              · by_cases e1 : et.f = -1
                · obtain ⟨a1, a2, a3⟩ := v3 e1
                  have := hpE e1
                  omega
                · exact v4 e1
            refine z_istore_n (lv' := [_, _, _, _]) dX10_factor_66 (by decide) rfl ?_
            refine z_aload_n dX10_factor_67 rfl ?_
            refine s_geti f_Mo_89 dX10_factor_68 (by assumption) rfl ?_
            refine z_if_ge 109 dX10_factor_71 (by decide) (fun c71 => ?_) (fun c71 => ?_)
            · rw [y20] at c71
              have hne : et.f ≠ -1 := fun e => by rw [show et.c.2 = -1 from e] at c71; exact absurd c71 (by decide)
              have hcl : ∀ S9, mC S9 m L tx k c2 (cPass tx L 41 et.c) → mC S9 m L tx k c2 (cClose tx L et.c) := fun S9 w => w.any (by rw [(cPass_k (tx := tx) (L := L) (c := 41) (by decide) et.c).2 hne]; exact hne) (((cClose_k (tx := tx) (L := L) et.c).2 hne).trans ((cPass_k (tx := tx) (L := L) (c := 41) (by decide) et.c).2 hne).symm)
              refine z_aload_n dX10_factor_109 rfl ?_
              refine z_bipush 41 dX10_factor_110 (by decide) ?_
              first
                | (refine n_callV0 l_Mo_117 (C_Mo_must hM v2 hL (show (41 : Int32) ≠ -1 by decide)) m0 dX10_factor_112 rfl rfl (Nat.le_of_ble_eq_true rfl) (rrm (by omega) (by decide)) (fun S112 q112 => ?_)
                   refine z_iload_n dX10_factor_115 rfl ?_
                   refine z_ireturn dX10_factor_116 rfl rfl ⟨Nat.le_refl _, Nat.le_refl _⟩ ?_
                   exact ⟨rfl, _, rfl, fin S112 q112.1 (hcl S112 q112.2)⟩)
                | (have hw := v2.wr (y := nI (et.p + 1)) (nI_pos' (by omega))
                   have hne3 : bl et.c.2 (nI (et.p + 1)) ≠ -1 := bl_n (by omega)
                   refine n_callV0 l_Mo_117 (C_Mo_must hM hw hL (show (41 : Int32) ≠ -1 by decide)) m0 dX10_factor_112 rfl rfl (Nat.le_of_ble_eq_true rfl) (rrm (by omega) (by decide)) (fun S112 q112 => ?_)
                   refine z_iload_n dX10_factor_115 rfl ?_
                   refine z_ireturn dX10_factor_116 rfl rfl ⟨Nat.le_refl _, Nat.le_refl _⟩ ?_
                   have e1 : (cClose tx L et.c).2 = bl et.c.2 (nI (et.p + 1)) := by
                     unfold cClose cBlf
                     rw [show sgn tx L et.c.1 = tx et.p from hs2, c96, if_neg (show ¬ (32 : Int32) = 41 by decide), if_pos rfl]
                   have e2 := (cPass_k (tx := tx) (L := L) (c := 41) (by decide) (et.c.1, bl et.c.2 (nI (et.p + 1)))).2 hne3
                   exact ⟨rfl, _, rfl, fin S112 ((mS.set (Or.inr (Or.inl rfl))).tr q112.1) (q112.2.any (by rw [e2]; exact hne3) (e1.trans e2.symm))⟩)
                | skip
            · rw [y20] at c71
              have hfe : et.f = -1 := (okF_neg y5).mp (Int32.not_le.mp c71)
              have hqe : q2 = et.p := yqs hfe
              subst hqe
              refine z_aload_n dX10_factor_74 rfl ?_
              refine s_geti f_Mo_92 dX10_factor_75 (by assumption) rfl ?_
              refine z_aload_n dX10_factor_78 rfl ?_
              refine s_geti f_Mo_85 dX10_factor_79 (by assumption) rfl ?_
              rw [y19, y13]
              refine z_icmp_ge 109 dX10_factor_82 (by decide) (fun c82 => ?_) (fun c82 => ?_)
              · have hqL2 := i_le (by omega) (by omega) c82
                have hs2 : sgn tx L et.p = -1 := if_neg (by omega)
                have hcl : ∀ S9, mC S9 m L tx k c2 (cPass tx L 41 et.c) → mC S9 m L tx k c2 (cClose tx L et.c) := fun S9 w => by
                  have e1 : cClose tx L et.c = cPass tx L 41 et.c := by
                    unfold cClose cPass cBlf
                    rw [show sgn tx L et.c.1 = -1 from hs2, if_neg (show ¬ (-1 : Int32) = 41 by decide), if_neg (show ¬ (-1 : Int32) = 41 by decide), if_neg (show ¬ (-1 : Int32) = 32 by decide)]
                  rw [e1]; exact w
                refine z_aload_n dX10_factor_109 rfl ?_
                refine z_bipush 41 dX10_factor_110 (by decide) ?_
                first
                  | (refine n_callV0 l_Mo_117 (C_Mo_must hM v2 hL (show (41 : Int32) ≠ -1 by decide)) m0 dX10_factor_112 rfl rfl (Nat.le_of_ble_eq_true rfl) (rrm (by omega) (by decide)) (fun S112 q112 => ?_)
                     refine z_iload_n dX10_factor_115 rfl ?_
                     refine z_ireturn dX10_factor_116 rfl rfl ⟨Nat.le_refl _, Nat.le_refl _⟩ ?_
                     exact ⟨rfl, _, rfl, fin S112 q112.1 (hcl S112 q112.2)⟩)
                  | (have hw := v2.wr (y := nI (et.p + 1)) (nI_pos' (by omega))
                     have hne3 : bl et.c.2 (nI (et.p + 1)) ≠ -1 := bl_n (by omega)
                     refine n_callV0 l_Mo_117 (C_Mo_must hM hw hL (show (41 : Int32) ≠ -1 by decide)) m0 dX10_factor_112 rfl rfl (Nat.le_of_ble_eq_true rfl) (rrm (by omega) (by decide)) (fun S112 q112 => ?_)
                     refine z_iload_n dX10_factor_115 rfl ?_
                     refine z_ireturn dX10_factor_116 rfl rfl ⟨Nat.le_refl _, Nat.le_refl _⟩ ?_
                     have e1 : (cClose tx L et.c).2 = bl et.c.2 (nI (et.p + 1)) := by
                       unfold cClose cBlf
                       rw [show sgn tx L et.c.1 = tx et.p from hs2, c96, if_neg (show ¬ (32 : Int32) = 41 by decide), if_pos rfl]
                     have e2 := (cPass_k (tx := tx) (L := L) (c := 41) (by decide) (et.c.1, bl et.c.2 (nI (et.p + 1)))).2 hne3
                     exact ⟨rfl, _, rfl, fin S112 ((mS.set (Or.inr (Or.inl rfl))).tr q112.1) (q112.2.any (by rw [e2]; exact hne3) (e1.trans e2.symm))⟩)
                  | skip
              · have hqL2 := i_nle (by omega) c82
                have hs2 : sgn tx L et.p = tx et.p := if_pos hqL2
                refine z_aload_n dX10_factor_85 rfl ?_
                refine s_getr f_Mo_42 dX10_factor_86 (by assumption) rfl ?_
                refine z_aload_n dX10_factor_89 rfl ?_
                refine s_geti f_Mo_92 dX10_factor_90 (by assumption) rfl ?_
                rw [y19]
                refine s_iald dX10_factor_93 a11 (vp_in_nI (by omega) (by decide)) ?_
                rw [nI_clamp (by omega), ytx _ hqL2]
                refine z_bipush 32 dX10_factor_94 (by decide) ?_
                refine z_icmp_ne 109 dX10_factor_96 (by decide) (fun c96 => ?_) (fun c96 => ?_)
                · have hcl : ∀ S9, mC S9 m L tx k c2 (cPass tx L 41 et.c) → mC S9 m L tx k c2 (cClose tx L et.c) := fun S9 w => by
                    have e1 : cClose tx L et.c = cPass tx L 41 et.c := by
                      unfold cClose cPass cBlf
                      rw [show sgn tx L et.c.1 = tx et.p from hs2, if_neg c96]
                    rw [e1]; exact w
                  refine z_aload_n dX10_factor_109 rfl ?_
                  refine z_bipush 41 dX10_factor_110 (by decide) ?_
                  first
                    | (refine n_callV0 l_Mo_117 (C_Mo_must hM v2 hL (show (41 : Int32) ≠ -1 by decide)) m0 dX10_factor_112 rfl rfl (Nat.le_of_ble_eq_true rfl) (rrm (by omega) (by decide)) (fun S112 q112 => ?_)
                       refine z_iload_n dX10_factor_115 rfl ?_
                       refine z_ireturn dX10_factor_116 rfl rfl ⟨Nat.le_refl _, Nat.le_refl _⟩ ?_
                       exact ⟨rfl, _, rfl, fin S112 q112.1 (hcl S112 q112.2)⟩)
                    | (have hw := v2.wr (y := nI (et.p + 1)) (nI_pos' (by omega))
                       have hne3 : bl et.c.2 (nI (et.p + 1)) ≠ -1 := bl_n (by omega)
                       refine n_callV0 l_Mo_117 (C_Mo_must hM hw hL (show (41 : Int32) ≠ -1 by decide)) m0 dX10_factor_112 rfl rfl (Nat.le_of_ble_eq_true rfl) (rrm (by omega) (by decide)) (fun S112 q112 => ?_)
                       refine z_iload_n dX10_factor_115 rfl ?_
                       refine z_ireturn dX10_factor_116 rfl rfl ⟨Nat.le_refl _, Nat.le_refl _⟩ ?_
                       have e1 : (cClose tx L et.c).2 = bl et.c.2 (nI (et.p + 1)) := by
                         unfold cClose cBlf
                         rw [show sgn tx L et.c.1 = tx et.p from hs2, c96, if_neg (show ¬ (32 : Int32) = 41 by decide), if_pos rfl]
                       have e2 := (cPass_k (tx := tx) (L := L) (c := 41) (by decide) (et.c.1, bl et.c.2 (nI (et.p + 1)))).2 hne3
                       exact ⟨rfl, _, rfl, fin S112 ((mS.set (Or.inr (Or.inl rfl))).tr q112.1) (q112.2.any (by rw [e2]; exact hne3) (e1.trans e2.symm))⟩)
                    | skip
                · refine z_aload_n dX10_factor_99 rfl ?_
                  refine z_aload_n dX10_factor_100 rfl ?_
                  refine s_geti f_Mo_92 dX10_factor_101 (by assumption) rfl ?_
                  refine z_iconst 1 dX10_factor_104 rfl ?_
                  rw [y19]
                  refine z_iadd dX10_factor_105 ?_
                  rw [nI_1]
                  refine s_callV0 l_Mo_99 (C_Mo_wrong hM v2) m0 dX10_factor_106 rfl rfl (Nat.le_of_ble_eq_true rfl) (rrm (by omega) (by decide)) ?_
                  refine z_aload_n dX10_factor_109 rfl ?_
                  refine z_bipush 41 dX10_factor_110 (by decide) ?_
                  first
                    | (refine n_callV0 l_Mo_117 (C_Mo_must hM v2 hL (show (41 : Int32) ≠ -1 by decide)) m0 dX10_factor_112 rfl rfl (Nat.le_of_ble_eq_true rfl) (rrm (by omega) (by decide)) (fun S112 q112 => ?_)
                       refine z_iload_n dX10_factor_115 rfl ?_
                       refine z_ireturn dX10_factor_116 rfl rfl ⟨Nat.le_refl _, Nat.le_refl _⟩ ?_
                       exact ⟨rfl, _, rfl, fin S112 q112.1 (hcl S112 q112.2)⟩)
                    | (have hw := v2.wr (y := nI (et.p + 1)) (nI_pos' (by omega))
                       have hne3 : bl et.c.2 (nI (et.p + 1)) ≠ -1 := bl_n (by omega)
                       refine n_callV0 l_Mo_117 (C_Mo_must hM hw hL (show (41 : Int32) ≠ -1 by decide)) m0 dX10_factor_112 rfl rfl (Nat.le_of_ble_eq_true rfl) (rrm (by omega) (by decide)) (fun S112 q112 => ?_)
                       refine z_iload_n dX10_factor_115 rfl ?_
                       refine z_ireturn dX10_factor_116 rfl rfl ⟨Nat.le_refl _, Nat.le_refl _⟩ ?_
                       have e1 : (cClose tx L et.c).2 = bl et.c.2 (nI (et.p + 1)) := by
                         unfold cClose cBlf
                         rw [show sgn tx L et.c.1 = tx et.p from hs2, c96, if_neg (show ¬ (32 : Int32) = 41 by decide), if_pos rfl]
                       have e2 := (cPass_k (tx := tx) (L := L) (c := 41) (by decide) (et.c.1, bl et.c.2 (nI (et.p + 1)))).2 hne3
                       exact ⟨rfl, _, rfl, fin S112 ((mS.set (Or.inr (Or.inl rfl))).tr q112.1) (q112.2.any (by rw [e2]; exact hne3) (e1.trans e2.symm))⟩)
                    | skip
          · have hd0 : d = 0 := by have := (nI_eq (b := 6) (by omega) (by decide)).mp c36; omega
            refine z_aload_n dX10_factor_39 rfl ?_
            refine z_aload_n dX10_factor_40 rfl ?_
            refine s_geti f_Mo_92 dX10_factor_41 (by assumption) rfl ?_
            rw [h19]
            refine s_callV0 l_Mo_99 (C_Mo_wrong hM hc) m0 dX10_factor_44 rfl rfl (Nat.le_of_ble_eq_true rfl) (rrm (by omega) (by decide)) ?_
            refine z_iconst 0 dX10_factor_47 rfl ?_
            refine z_ireturn dX10_factor_48 rfl rfl ⟨Nat.le_refl _, Nat.le_refl _⟩ ?_
            exact ⟨rfl, _, rfl, bad (Or.inl (pFac_1 hfs ⟨Or.inr hs40, hd0⟩))⟩
    · rw [h20] at c4
      exact absurd ((okF_neg h5).mpr hfs) c4
  by_cases hfs : s.f = -1
  · exact main hfs
  · skip
    refine s_meth 2 ⟨p_Mo, rfl, Nat.le_of_ble_eq_true rfl⟩ rfl (fun sz => ?_)
    refine z_aload_n dX10_factor_0 rfl ?_
    refine s_geti f_Mo_89 dX10_factor_1 (by assumption) rfl ?_
    refine z_if_lt 9 dX10_factor_4 (by decide) (fun c4 => ?_) (fun c4 => ?_)
    · rw [h20] at c4
      exact absurd ((okF_neg h5).mp c4) hfs
    · refine z_iconst 0 dX10_factor_7 rfl ?_
      refine z_ireturn dX10_factor_8 rfl rfl ⟨Nat.le_refl _, Nat.le_refl _⟩ ?_
      exact ⟨rfl, _, rfl, psS.rf, h.any hfs (by rw [pFac_0 hfs]), 0, rfl, fun g => absurd (by rw [pFac_0 hfs] at g; exact g) hfs⟩
theorem C_mF (hM : tMo sh m) (hk : k < 8) (hL : L ≤ 100) : ∀ d, d ≤ 6 → FacM G sh m_Mo_factor m k L tx (10 + 3 * d) (nI (6 - d)) (2 * d + 1) (pF tx L d)
  | 0, h => C_Mo_factor (De := 0) (Df := 0) (bE := 0) (bX := 0) hM hk hL (by decide) h (by decide) (by decide) (fun e => absurd rfl e) (fun e => absurd rfl e) id_k id_k (fun e => absurd rfl e) (by decide) (fun e => absurd rfl e) (by decide)
  | d + 1, h => by
    have ih := C_mF (d := d) hM hk hL (by omega)
    rw [show 6 - d = 6 - (d + 1) + 1 by omega] at ih
    exact C_Mo_factor hM hk hL (by omega) h (De := 10 + 3 * d + 1 + 1) (Df := 10 + 3 * d) (bE := 2 * d + 1 + 2) (bX := 2 * d + 1) (by omega) (by omega) (fun _ => C_Mo_either hM hk hL (by omega) ih (pF_k d) (pF_ok hL d)) (fun _ => ih) (pE_k (pF_k d)) (pF_k d) (fun _ => pF_ok hL d) (by omega) (fun _ => by omega) (by omega)
theorem C_mE (hM : tMo sh m) (hk : k < 8) (hL : L ≤ 100) : FacM G sh m_Mo_either m k L tx 30 0 15 (pE tx L (pF tx L 6)) :=
  C_Mo_either (D := 28) hM hk hL (by decide) (C_mF (G := G) hM hk hL 6 (by decide)) (pF_k 6) (pF_ok hL 6)
end MON

