/-! ===== the model: reading, its small methods ===== -/
/-- the reader of the model: query k, text of L, stands and has this fault, c nodes so far -/
def mC (S : zSt) (m L : Nat) (tx : Nat → Int32) (k c : Nat) (s : PC) : Prop := zi S m 13 = nI L ∧ (∀ i, i < L → za S (m + 11) i = tx i) ∧ zi S m 4 = nI k ∧ zi S m 22 = nI (60 * k) ∧ okF s.2 ∧ zi S m 20 = s.2 ∧ zi S m 21 = nI c ∧ ∃ p, zi S m 19 = nI p ∧ p ≤ L ∧ (s.2 = -1 → p = s.1)
/-- only where it reads, the fault, the count of nodes have changed -/
def mS (m : Nat) (S S' : zSt) : Prop := (∀ b, b ≠ m → zag S S' b) ∧ ∀ j, j ≠ 19 → j ≠ 20 → j ≠ 21 → zi S' m j = zi S m j
/-- and nodes of this query -/
def psS (m k : Nat) (S S' : zSt) : Prop := (∀ b, b ≠ m → b < m + 5 ∨ m + 11 ≤ b → zag S S' b) ∧ (∀ j, j ≠ 19 → j ≠ 20 → j ≠ 21 → zi S' m j = zi S m j) ∧ ∀ b i, m + 5 ≤ b → b < m + 11 → i < 60 * k → za S' b i = za S b i
theorem zag.rf {S : zSt} {b : Nat} : zag S S b := ⟨rfl, rfl, rfl, rfl⟩
theorem zag.tr {S S1 S2 : zSt} {b : Nat} (h1 : zag S S1 b) (h2 : zag S1 S2 b) : zag S S2 b := ⟨h2.1.trans h1.1, h2.2.1.trans h1.2.1, h2.2.2.1.trans h1.2.2.1, h2.2.2.2.trans h1.2.2.2⟩
theorem mS.rf {m : Nat} {S : zSt} : mS m S S := ⟨fun _ _ => zag.rf, fun _ _ _ _ => rfl⟩
theorem mS.tr {m : Nat} {S S1 S2 : zSt} (h1 : mS m S S1) (h2 : mS m S1 S2) : mS m S S2 := ⟨fun b hb => (h1.1 b hb).tr (h2.1 b hb), fun j a b c => (h2.2 j a b c).trans (h1.2 j a b c)⟩
theorem mS.set {m j : Nat} {S : zSt} {v : Int32} (h : j = 19 ∨ j = 20 ∨ j = 21) : mS m S (zsi S m j v) := ⟨fun b hb => ⟨zup_off hb, rfl, rfl, rfl⟩, fun i a b c => zup_ne (fun q => by omega)⟩
theorem psS.rf {m k : Nat} {S : zSt} : psS m k S S := ⟨fun _ _ _ => zag.rf, fun _ _ _ _ => rfl, fun _ _ _ _ _ => rfl⟩
theorem psS.tr {m k : Nat} {S S1 S2 : zSt} (h1 : psS m k S S1) (h2 : psS m k S1 S2) : psS m k S S2 := ⟨fun b hb hb2 => (h1.1 b hb hb2).tr (h2.1 b hb hb2), fun j a b c => (h2.2.1 j a b c).trans (h1.2.1 j a b c), fun b i a c d => (h2.2.2 b i a c d).trans (h1.2.2 b i a c d)⟩
theorem mS.ps {m k : Nat} {S S' : zSt} (h : mS m S S') : psS m k S S' := ⟨fun b hb _ => h.1 b hb, h.2, fun b i a c d => congrFun (h.1 b (by omega)).2.2.1 i⟩
theorem mS.nd {m b N : Nat} {nd : Nd} {S S' : zSt} (h : mS m S S') (hn : rNd S m b N nd) : rNd S' m b N nd := hn.fr (P := fun b => b = m) (fun b hb => h.1 b hb) (fun b b1 b2 => by omega)
theorem mC.st {S : zSt} {m L k c p p' : Nat} {tx : Nat → Int32} {s : PC} {f : Int32} (h : mC S m L tx k c s) (hp : p ≤ L) (hf : okF f) (h2 : f = -1 → p = p') : mC (zsi (zsi S m 19 (nI p)) m 20 f) m L tx k c (p', f) := by
  obtain ⟨h13, htx, h4, h22, -, -, h21, -⟩ := h
  exact ⟨(zi_sik (by decide)).trans ((zi_sik (by decide)).trans h13), htx, (zi_sik (by decide)).trans ((zi_sik (by decide)).trans h4), (zi_sik (by decide)).trans ((zi_sik (by decide)).trans h22), hf, zi_si, (zi_sik (by decide)).trans ((zi_sik (by decide)).trans h21), p, (zi_sik (by decide)).trans zi_si, hp, h2⟩
theorem mC.spot {S : zSt} {m L k c p p' : Nat} {tx : Nat → Int32} {s : PC} (h : mC S m L tx k c s) (hp : p ≤ L) (h2 : s.2 = -1 → p = p') : mC (zsi S m 19 (nI p)) m L tx k c (p', s.2) := by
  obtain ⟨h13, htx, h4, h22, h5, h20, h21, -⟩ := h
  exact ⟨(zi_sik (by decide)).trans h13, htx, (zi_sik (by decide)).trans h4, (zi_sik (by decide)).trans h22, h5, (zi_sik (by decide)).trans h20, (zi_sik (by decide)).trans h21, p, zi_si, hp, h2⟩
theorem mC.flt {S : zSt} {m L k c p' : Nat} {tx : Nat → Int32} {s : PC} {f : Int32} (h : mC S m L tx k c s) (hf : 0 ≤ f) : mC (zsi S m 20 f) m L tx k c (p', f) := by
  obtain ⟨h13, htx, h4, h22, -, -, h21, p, h19, hp, -⟩ := h
  exact ⟨(zi_sik (by decide)).trans h13, htx, (zi_sik (by decide)).trans h4, (zi_sik (by decide)).trans h22, Or.inr hf, zi_si, (zi_sik (by decide)).trans h21, p, (zi_sik (by decide)).trans h19, hp, fun e => by have e : f = -1 := e; rw [e] at hf; exact absurd hf (by decide)⟩
theorem mC.wr {S : zSt} {m L k c : Nat} {tx : Nat → Int32} {s : PC} {y : Int32} (h : mC S m L tx k c s) (hy : 0 ≤ y) : mC (zsi S m 20 (bl s.2 y)) m L tx k c (s.1, bl s.2 y) := by
  obtain ⟨h13, htx, h4, h22, h5, -, h21, p, h19, hp, hq⟩ := h
  refine ⟨(zi_sik (by decide)).trans h13, htx, (zi_sik (by decide)).trans h4, (zi_sik (by decide)).trans h22, okF_bl h5 hy, zi_si, (zi_sik (by decide)).trans h21, p, (zi_sik (by decide)).trans h19, hp, fun e => ?_⟩
  by_cases q : s.2 = -1
  · exact hq q
  · have e : bl s.2 y = -1 := e
    rw [bl_f q] at e
    exact absurd e q
/-- where there is a fault, the place doesn't matter -/
theorem mC.any {S : zSt} {m L k c : Nat} {tx : Nat → Int32} {s t : PC} (h : mC S m L tx k c s) (hf : s.2 ≠ -1) (e : t.2 = s.2) : mC S m L tx k c t := by
  obtain ⟨h13, htx, h4, h22, h5, h20, h21, p, h19, hp, -⟩ := h
  exact ⟨h13, htx, h4, h22, by rw [e]; exact h5, by rw [e]; exact h20, h21, p, h19, hp, fun q => absurd (e.symm.trans q) hf⟩
theorem okF_neg {f : Int32} (h : okF f) : f < 0 ↔ f = -1 := by
  rcases h with h | h
  · rw [h]; decide
  · exact ⟨fun q => absurd h (Int32.not_le.mpr q), fun q => by rw [q] at h; exact absurd h (by decide)⟩
theorem lt16 {v : Int32} : v < 16 ↔ v ≤ 15 := by
  rw [Int32.lt_iff_toInt_lt, Int32.le_iff_toInt_le, show (16 : Int32).toInt = 16 by decide, show (15 : Int32).toInt = 15 by decide]
  omega
section MOK
variable {G : zG} {sh : Nat → Option zSh} {S : zSt} {m L k c p : Nat} {tx : Nat → Int32} {s : PC}
theorem C_Mo_signAt (hM : tMo sh m) (h13 : zi S m 13 = nI L) (htx : ∀ i, i < L → za S (m + 11) i = tx i) (hL : L ≤ 100) (hp : p < 2 ^ 31) : zD G m_Mo_signAt 1 sh [.ref m, .int (nI p)] S (some (.int (if p < L then tx p else 0))) S := by
  obtain ⟨m0, a1, a2, a3, a4, a5, a6, a7, a8, a9, a10, a11, a12, a13, a14, a15, a16, a22⟩ := id hM
  refine s_methD 0 ⟨p_Mo, rfl, Nat.le_of_ble_eq_true rfl⟩ rfl (fun sz => ?_)
  refine z_iload_n dX10_signAt_0 rfl ?_
  refine z_aload_n dX10_signAt_1 rfl ?_
  refine s_geti f_Mo_85 dX10_signAt_2 (by assumption) rfl ?_
  rw [h13]
  refine z_icmp_ge 17 dX10_signAt_5 (by decide) (fun c5 => ?_) (fun c5 => ?_)
  · rw [if_neg (by have := i_le (by omega) hp c5; omega)]
    refine z_iconst 0 dX10_signAt_17 rfl ?_
    refine z_ireturn dX10_signAt_18 rfl rfl ⟨Nat.le_refl _, Nat.le_refl _⟩ ?_
    exact ⟨rfl, rfl, rfl⟩
  · have hp2 := i_nle hp c5
    rw [if_pos hp2]
    refine z_aload_n dX10_signAt_8 rfl ?_
    refine s_getr f_Mo_42 dX10_signAt_9 (by assumption) rfl ?_
    refine z_iload_n dX10_signAt_12 rfl ?_
    refine s_iald dX10_signAt_13 a11 (vp_in_nI (by omega) (by decide)) ?_
    rw [nI_clamp (by omega), htx p hp2]
    refine z_goto 18 dX10_signAt_14 (by decide) ?_
    refine z_ireturn dX10_signAt_18 rfl rfl ⟨Nat.le_refl _, Nat.le_refl _⟩ ?_
    exact ⟨rfl, rfl, rfl⟩
theorem C_Mo_wrong {y : Int32} (hM : tMo sh m) (h : mC S m L tx k c s) : zD G m_Mo_wrong 1 sh [.ref m, .int y] S none (zsi S m 20 (bl s.2 y)) := by
  obtain ⟨m0, a1, a2, a3, a4, a5, a6, a7, a8, a9, a10, a11, a12, a13, a14, a15, a16, a22⟩ := id hM
  obtain ⟨h13, htx, h4, h22, h5, h20, h21, q, h19, hq, hqs⟩ := id h
  refine s_methD 0 ⟨p_Mo, rfl, Nat.le_of_ble_eq_true rfl⟩ rfl (fun sz => ?_)
  refine z_aload_n dX10_wrong_0 rfl ?_
  refine z_aload_n dX10_wrong_1 rfl ?_
  refine s_geti f_Mo_89 dX10_wrong_2 (by assumption) rfl ?_
  refine z_if_ge 12 dX10_wrong_5 (by decide) (fun c5 => ?_) (fun c5 => ?_)
  · rw [h20] at c5
    have hne : s.2 ≠ -1 := fun e => by rw [e] at c5; exact absurd c5 (by decide)
    rw [bl_f hne]
    refine z_aload_n dX10_wrong_12 rfl ?_
    refine s_geti f_Mo_89 dX10_wrong_13 (by assumption) rfl ?_
    first
      | rw [h20]
      | skip
    refine s_puti f_Mo_89 dX10_wrong_16 (by assumption) rfl ⟨rfl, rfl⟩ ?_
    refine z_return dX10_wrong_19 rfl ⟨Nat.le_refl _, Nat.le_refl _⟩ ?_
    exact ⟨rfl, rfl, rfl⟩
  · rw [h20] at c5
    have hm : s.2 = -1 := (okF_neg h5).mp (Int32.not_le.mp c5)
    rw [hm, bl_m]
    refine z_iload_n dX10_wrong_8 rfl ?_
    refine z_goto 16 dX10_wrong_9 (by decide) ?_
    first
      | rw [h20]
      | skip
    refine s_puti f_Mo_89 dX10_wrong_16 (by assumption) rfl ⟨rfl, rfl⟩ ?_
    refine z_return dX10_wrong_19 rfl ⟨Nat.le_refl _, Nat.le_refl _⟩ ?_
    exact ⟨rfl, rfl, rfl⟩
theorem C_Mo_must {y : Int32} (hM : tMo sh m) (h : mC S m L tx k c s) (hL : L ≤ 100) (hy : y ≠ -1) : zN G m_Mo_must 2 sh [.ref m, .int y] S none (fun S' => mS m S S' ∧ mC S' m L tx k c (cPass tx L y s)) := by
  obtain ⟨m0, a1, a2, a3, a4, a5, a6, a7, a8, a9, a10, a11, a12, a13, a14, a15, a16, a22⟩ := id hM
  obtain ⟨h13, htx, h4, h22, h5, h20, h21, q, h19, hq, hqs⟩ := id h
  refine s_meth 0 ⟨p_Mo, rfl, Nat.le_of_ble_eq_true rfl⟩ rfl (fun sz => ?_)
  refine z_aload_n dX10_must_0 rfl ?_
  refine s_geti f_Mo_89 dX10_must_1 (by assumption) rfl ?_
  refine z_if_lt 8 dX10_must_4 (by decide) (fun c4 => ?_) (fun c4 => ?_)
  · rw [h20] at c4
    have hm := (okF_neg h5).mp c4
    have hqs := hqs hm
    have e : cPass tx L y s = if sgn tx L q = y then (q + 1, s.2) else (q, bl s.2 (nI q)) := by rw [hqs]; rfl
    have hs0 : (q, s.2) = s := by rw [hqs]
    refine z_aload_n dX10_must_8 rfl ?_
    refine z_aload_n dX10_must_9 rfl ?_
    refine s_geti f_Mo_92 dX10_must_10 (by assumption) rfl ?_
    rw [h19]
    refine s_callV1 l_Mo_95 (C_Mo_signAt (p := q) hM h13 htx hL (by omega)) m0 dX10_must_13 rfl rfl (Nat.le_of_ble_eq_true rfl) ⟨⟨by decide, by decide⟩, by decide, by decide⟩ ?_
    refine z_iload_n dX10_must_16 rfl ?_
    refine z_icmp_ne 44 dX10_must_17 (by decide) (fun c17 => ?_) (fun c17 => ?_)
    · have hns : ¬ sgn tx L q = y := fun z => by
        by_cases hqL : q < L
        · rw [if_pos hqL] at c17
          exact c17 ((if_pos hqL).symm.trans z)
        · exact hy (z.symm.trans (if_neg hqL))
      rw [if_neg hns] at e
      refine z_aload_n dX10_must_44 rfl ?_
      refine z_aload_n dX10_must_45 rfl ?_
      refine s_geti f_Mo_92 dX10_must_46 (by assumption) rfl ?_
      rw [h19]
      refine s_callV0 l_Mo_99 (C_Mo_wrong hM h) m0 dX10_must_49 rfl rfl (Nat.le_of_ble_eq_true rfl) ⟨⟨by decide, by decide⟩, by decide, by decide⟩ ?_
      refine z_return dX10_must_52 rfl ⟨Nat.le_refl _, Nat.le_refl _⟩ ?_
      rw [e]
      first
        | exact ⟨rfl, _, rfl, rfl, mS.set (Or.inl rfl), h.spot (by omega) (fun _ => rfl)⟩
        | (have hw := h.wr (y := nI q) (nI_pos' (by omega))
           rw [← hqs] at hw
           exact ⟨rfl, _, rfl, rfl, mS.set (Or.inr (Or.inl rfl)), hw⟩)
        | skip
    · refine z_aload_n dX10_must_20 rfl ?_
      refine s_geti f_Mo_92 dX10_must_21 (by assumption) rfl ?_
      refine z_aload_n dX10_must_24 rfl ?_
      refine s_geti f_Mo_85 dX10_must_25 (by assumption) rfl ?_
      rw [h19, h13]
      refine z_icmp_ge 44 dX10_must_28 (by decide) (fun c28 => ?_) (fun c28 => ?_)
      · have hqL := i_le (by omega) (by omega) c28
        rw [if_neg (show ¬ sgn tx L q = y from fun z => hy (z.symm.trans (if_neg (by omega))))] at e
        refine z_aload_n dX10_must_44 rfl ?_
        refine z_aload_n dX10_must_45 rfl ?_
        refine s_geti f_Mo_92 dX10_must_46 (by assumption) rfl ?_
        rw [h19]
        refine s_callV0 l_Mo_99 (C_Mo_wrong hM h) m0 dX10_must_49 rfl rfl (Nat.le_of_ble_eq_true rfl) ⟨⟨by decide, by decide⟩, by decide, by decide⟩ ?_
        refine z_return dX10_must_52 rfl ⟨Nat.le_refl _, Nat.le_refl _⟩ ?_
        rw [e]
        first
          | exact ⟨rfl, _, rfl, rfl, mS.set (Or.inl rfl), h.spot (by omega) (fun _ => rfl)⟩
          | (have hw := h.wr (y := nI q) (nI_pos' (by omega))
             rw [← hqs] at hw
             exact ⟨rfl, _, rfl, rfl, mS.set (Or.inr (Or.inl rfl)), hw⟩)
          | skip
      · have hqL := i_nle (by omega) c28
        rw [if_pos hqL] at c17
        rw [if_pos (show sgn tx L q = y from (if_pos hqL).trans c17)] at e
        refine z_aload_n dX10_must_31 rfl ?_
        refine z_dup dX10_must_32 rfl ?_
        refine s_geti f_Mo_92 dX10_must_33 (by assumption) rfl ?_
        refine z_iconst 1 dX10_must_36 rfl ?_
        rw [h19]
        refine z_iadd dX10_must_37 ?_
        rw [nI_1]
        refine s_puti f_Mo_92 dX10_must_38 (by assumption) rfl ⟨rfl, rfl⟩ ?_
        refine z_goto 52 dX10_must_41 (by decide) ?_
        refine z_return dX10_must_52 rfl ⟨Nat.le_refl _, Nat.le_refl _⟩ ?_
        rw [e]
        first
          | exact ⟨rfl, _, rfl, rfl, mS.set (Or.inl rfl), h.spot (by omega) (fun _ => rfl)⟩
          | (have hw := h.wr (y := nI q) (nI_pos' (by omega))
             rw [← hqs] at hw
             exact ⟨rfl, _, rfl, rfl, mS.set (Or.inr (Or.inl rfl)), hw⟩)
          | skip
  · rw [h20] at c4
    have hne : s.2 ≠ -1 := fun e => c4 ((okF_neg h5).mpr e)
    refine z_return dX10_must_7 rfl ⟨Nat.le_refl _, Nat.le_refl _⟩ ?_
    exact ⟨rfl, _, rfl, rfl, mS.rf, h.any hne ((cPass_k (tx := tx) (L := L) hy s).2 hne)⟩
theorem C_Mo_wordEnd (hM : tMo sh m) (h13 : zi S m 13 = nI L) (htx : ∀ i, i < L → za S (m + 11) i = tx i) (hL : L ≤ 100) (h19 : zi S m 19 = nI p) (hp : p ≤ L) : zD G m_Mo_wordEnd 2 sh [.ref m] S (some (.int (nI (wE tx L p)))) S := by
  obtain ⟨m0, a1, a2, a3, a4, a5, a6, a7, a8, a9, a10, a11, a12, a13, a14, a15, a16, a22⟩ := id hM
  obtain ⟨g1, g2, g3⟩ := wE_spec (tx := tx) (L := L) (p := p)
  have gl := wE_le (tx := tx) hp
  refine s_methD 1 ⟨p_Mo, rfl, Nat.le_of_ble_eq_true rfl⟩ rfl (fun sz => ?_)
  have loop : ∀ d i, wE tx L p - i = d → p ≤ i → i ≤ wE tx L p → zW G m_Mo_wordEnd (zRm 2 0 0) (zFm G (zQe (some (.int (nI (wE tx L p)))) (zhp sh S) sz) 0 0) 0 0 5 [some (.ref m), some (.int (nI i))] [] (zhp sh S) sz := by
    intro d
    induction d with
    | zero =>
      intro i h1 h2 h3
      have hi : i = wE tx L p := by omega
      rw [hi]
      generalize wE tx L p = e at *
      refine z_iload_n dX10_wordEnd_5 rfl ?_
      refine z_aload_n dX10_wordEnd_6 rfl ?_
      refine s_geti f_Mo_85 dX10_wordEnd_7 (by assumption) rfl ?_
      rw [h13]
      refine z_icmp_ge 35 dX10_wordEnd_10 (by decide) (fun c10 => ?_) (fun c10 => ?_)
      · refine z_iload_n dX10_wordEnd_35 rfl ?_
        refine z_ireturn dX10_wordEnd_36 rfl rfl ⟨Nat.le_refl _, Nat.le_refl _⟩ ?_
        exact ⟨rfl, rfl, rfl⟩
      · have he := i_nle (by omega) c10
        unfold isLet sgn at g3
        rw [if_pos he] at g3
        refine z_aload_n dX10_wordEnd_13 rfl ?_
        refine s_getr f_Mo_42 dX10_wordEnd_14 (by assumption) rfl ?_
        refine z_iload_n dX10_wordEnd_17 rfl ?_
        refine s_iald dX10_wordEnd_18 a11 (vp_in_nI (by omega) (by decide)) ?_
        rw [nI_clamp (by omega), htx _ he]
        refine z_bipush 97 dX10_wordEnd_19 (by decide) ?_
        refine z_bipush 122 dX10_wordEnd_21 (by decide) ?_
        refine s_callS1 l_Mo_63 (C_Mo_in) dX10_wordEnd_23 rfl rfl (Nat.le_of_ble_eq_true rfl) ⟨⟨by decide, by decide⟩, by decide, by decide⟩ ?_
        refine z_if_eq 35 dX10_wordEnd_26 (by decide) (fun c26 => ?_) (fun c26 => ?_)
        · refine z_iload_n dX10_wordEnd_35 rfl ?_
          refine z_ireturn dX10_wordEnd_36 rfl rfl ⟨Nat.le_refl _, Nat.le_refl _⟩ ?_
          exact ⟨rfl, rfl, rfl⟩
        · exact (zoF g3 c26).elim
    | succ d ih =>
      intro i h1 h2 h3
      have g4 := g2 i h2 (by omega)
      have hiL := (isLet_in g4).1
      unfold isLet at g4
      rw [show sgn tx L i = tx i from if_pos hiL] at g4
      refine z_iload_n dX10_wordEnd_5 rfl ?_
      refine z_aload_n dX10_wordEnd_6 rfl ?_
      refine s_geti f_Mo_85 dX10_wordEnd_7 (by assumption) rfl ?_
      rw [h13]
      refine z_icmp_ge 35 dX10_wordEnd_10 (by decide) (fun c10 => ?_) (fun c10 => ?_)
      · exact absurd c10 (nI_ge hiL (by omega))
      · refine z_aload_n dX10_wordEnd_13 rfl ?_
        refine s_getr f_Mo_42 dX10_wordEnd_14 (by assumption) rfl ?_
        refine z_iload_n dX10_wordEnd_17 rfl ?_
        refine s_iald dX10_wordEnd_18 a11 (vp_in_nI (by omega) (by decide)) ?_
        rw [nI_clamp (by omega), htx _ hiL]
        refine z_bipush 97 dX10_wordEnd_19 (by decide) ?_
        refine z_bipush 122 dX10_wordEnd_21 (by decide) ?_
        refine s_callS1 l_Mo_63 (C_Mo_in) dX10_wordEnd_23 rfl rfl (Nat.le_of_ble_eq_true rfl) ⟨⟨by decide, by decide⟩, by decide, by decide⟩ ?_
        refine z_if_eq 35 dX10_wordEnd_26 (by decide) (fun c26 => ?_) (fun c26 => ?_)
        · exact (zoT g4 c26).elim
        · refine z_iinc (lv' := [_, _]) 1 dX10_wordEnd_29 rfl (by decide) rfl rfl ?_
          refine z_goto 5 dX10_wordEnd_32 (by decide) ?_
          rw [nI_1]
          exact ih (i + 1) (by omega) (by omega) (by omega)
  refine z_aload_n dX10_wordEnd_0 rfl ?_
  refine s_geti f_Mo_92 dX10_wordEnd_1 (by assumption) rfl ?_
  rw [h19]
  refine z_istore_n (lv' := [_, _]) dX10_wordEnd_4 (by decide) rfl ?_
  exact loop (wE tx L p - p) p rfl (Nat.le_refl _) g1
theorem C_Mo_word (hM : tMo sh m) (h13 : zi S m 13 = nI L) (htx : ∀ i, i < L → za S (m + 11) i = tx i) (hL : L ≤ 100) (h19 : zi S m 19 = nI p) (hp : p ≤ L) : zD G m_Mo_word 3 sh [.ref m] S (some (.int (wV tx L p))) S := by
  obtain ⟨m0, a1, a2, a3, a4, a5, a6, a7, a8, a9, a10, a11, a12, a13, a14, a15, a16, a22⟩ := id hM
  obtain ⟨g1, g2, g3⟩ := wE_spec (tx := tx) (L := L) (p := p)
  have gl := wE_le (tx := tx) hp
  unfold wV
  refine s_methD 2 ⟨p_Mo, rfl, Nat.le_of_ble_eq_true rfl⟩ rfl (fun sz => ?_)
  have loop : ∀ d i, wE tx L p - p - i = d → i ≤ wE tx L p - p → zW G m_Mo_word (zRm 3 0 0) (zFm G (zQe (some (.int (wvN tx p (wE tx L p - p)))) (zhp sh S) sz) 0 0) 0 0 7 [some (.ref m), some (.int (wvN tx p i)), some (.int (nI (p + i)))] [] (zhp sh S) sz := by
    intro d
    induction d with
    | zero =>
      intro i h1 h2
      have hi : i = wE tx L p - p := by omega
      rw [hi]
      refine z_iload_n dX10_word_7 rfl ?_
      refine z_aload_n dX10_word_8 rfl ?_
      refine s_callV1 l_Mo_103 (C_Mo_wordEnd hM h13 htx hL h19 hp) m0 dX10_word_9 rfl rfl (Nat.le_of_ble_eq_true rfl) ⟨⟨by decide, by decide⟩, by decide, by decide⟩ ?_
      refine z_icmp_ge 53 dX10_word_12 (by decide) (fun c12 => ?_) (fun c12 => ?_)
      · refine z_iload_n dX10_word_53 rfl ?_
        refine z_ireturn dX10_word_54 rfl rfl ⟨Nat.le_refl _, Nat.le_refl _⟩ ?_
        exact ⟨rfl, rfl, rfl⟩
      · exact absurd (nI_le (by omega) (by omega)) c12
    | succ d ih =>
      intro i h1 h2
      have hiL := (isLet_in (g2 (p + i) (by omega) (by omega))).1
      have st : wvN tx p (i + 1) = if i < 5 then 32 * wvN tx p i + tx (p + i) - 97 + 1 else 2000000000 := rfl
      have ih2 := ih (i + 1) (by omega) (by omega)
      refine z_iload_n dX10_word_7 rfl ?_
      refine z_aload_n dX10_word_8 rfl ?_
      refine s_callV1 l_Mo_103 (C_Mo_wordEnd hM h13 htx hL h19 hp) m0 dX10_word_9 rfl rfl (Nat.le_of_ble_eq_true rfl) ⟨⟨by decide, by decide⟩, by decide, by decide⟩ ?_
      refine z_icmp_ge 53 dX10_word_12 (by decide) (fun c12 => ?_) (fun c12 => ?_)
      · exact absurd c12 (nI_ge (by omega) (by omega))
      · refine z_iload_n dX10_word_15 rfl ?_
        refine z_aload_n dX10_word_16 rfl ?_
        refine s_geti f_Mo_92 dX10_word_17 (by assumption) rfl ?_
        rw [h19]
        refine z_isub dX10_word_20 ?_
        rw [pk_sub (by omega), show p + i - p = i by omega]
        refine z_iconst 5 dX10_word_21 rfl ?_
        refine z_icmp_ge 44 dX10_word_22 (by decide) (fun c22 => ?_) (fun c22 => ?_)
        · rw [st, if_neg (by have := i_le (a := 5) (by decide) (by omega) c22; omega)] at ih2
          refine z_ldc (own := "") (2000000000) v_Mo_107 dX10_word_44 ?_
          refine z_istore_n (lv' := [_, _, _]) dX10_word_46 (by decide) rfl ?_
          refine z_iinc (lv' := [_, _, _]) 1 dX10_word_47 rfl (by decide) rfl rfl ?_
          refine z_goto 7 dX10_word_50 (by decide) ?_
          rw [nI_1]
          exact ih2
        · rw [st, if_pos (i_nle (a := 5) (by omega) c22)] at ih2
          refine z_bipush 32 dX10_word_25 (by decide) ?_
          refine z_iload_n dX10_word_27 rfl ?_
          refine z_imul dX10_word_28 ?_
          refine z_aload_n dX10_word_29 rfl ?_
          refine s_getr f_Mo_42 dX10_word_30 (by assumption) rfl ?_
          refine z_iload_n dX10_word_33 rfl ?_
          refine s_iald dX10_word_34 a11 (vp_in_nI (by omega) (by decide)) ?_
          rw [nI_clamp (by omega), htx _ hiL]
          refine z_iadd dX10_word_35 ?_
          refine z_bipush 97 dX10_word_36 (by decide) ?_
          refine z_isub dX10_word_38 ?_
          refine z_iconst 1 dX10_word_39 rfl ?_
          refine z_iadd dX10_word_40 ?_
          refine z_goto 46 dX10_word_41 (by decide) ?_
          refine z_istore_n (lv' := [_, _, _]) dX10_word_46 (by decide) rfl ?_
          refine z_iinc (lv' := [_, _, _]) 1 dX10_word_47 rfl (by decide) rfl rfl ?_
          refine z_goto 7 dX10_word_50 (by decide) ?_
          rw [nI_1]
          exact ih2
  refine z_iconst 0 dX10_word_0 rfl ?_
  refine z_istore_n (lv' := [_, _, _]) dX10_word_1 (by decide) rfl ?_
  refine z_aload_n dX10_word_2 rfl ?_
  refine s_geti f_Mo_92 dX10_word_3 (by assumption) rfl ?_
  rw [h19]
  refine z_istore_n (lv' := [_, _, _]) dX10_word_6 (by decide) rfl ?_
  exact loop (wE tx L p - p) 0 rfl (Nat.zero_le _)
theorem C_Mo_value (hM : tMo sh m) (h : mC S m L tx k c s) (hL : L ≤ 100) : zR G m_Mo_value 2 sh [.ref m] S (fun r S' => mS m S S' ∧ mC S' m L tx k c (cVal tx L s).2 ∧ ∃ z, r = some (.int z) ∧ (s.2 = -1 → z = (cVal tx L s).1)) := by
  obtain ⟨m0, a1, a2, a3, a4, a5, a6, a7, a8, a9, a10, a11, a12, a13, a14, a15, a16, a22⟩ := id hM
  obtain ⟨h13, htx, h4, h22, h5, h20, h21, q, h19, hq, hqs⟩ := id h
  refine s_meth 2 ⟨p_Mo, rfl, Nat.le_of_ble_eq_true rfl⟩ rfl (fun sz => ?_)
  have bad : ((cVal tx L s).2 = (s.1, bl s.2 (nI s.1)) ∧ (cVal tx L s).1 = 0 ∧ q = s.1) ∨ s.2 ≠ -1 → ∀ z1 z2, zW G m_Mo_value (zRm 2 0 0) (zFm G (zP sh sz (fun r S' => mS m S S' ∧ mC S' m L tx k c (cVal tx L s).2 ∧ ∃ z, r = some (.int z) ∧ (s.2 = -1 → z = (cVal tx L s).1))) 0 0) 0 0 38 [some (.ref m), some (.int z1), z2] [] (zhp sh S) sz := by
    intro hb z1 z2
    refine z_aload_n dX10_value_38 rfl ?_
    refine z_aload_n dX10_value_39 rfl ?_
    refine s_geti f_Mo_92 dX10_value_40 (by assumption) rfl ?_
    rw [h19]
    refine s_callV0 l_Mo_99 (C_Mo_wrong hM h) m0 dX10_value_43 rfl rfl (Nat.le_of_ble_eq_true rfl) ⟨⟨by decide, by decide⟩, by decide, by decide⟩ ?_
    refine z_iconst 0 dX10_value_46 rfl ?_
    refine z_ireturn dX10_value_47 rfl rfl ⟨Nat.le_refl _, Nat.le_refl _⟩ ?_
    have hw := h.wr (y := nI q) (nI_pos' (by omega))
    refine ⟨rfl, _, rfl, mS.set (Or.inr (Or.inl rfl)), ?_, 0, rfl, ?_⟩
    · rcases hb with ⟨e, -, eq⟩ | hne
      · rw [e, ← eq]
        rw [← eq] at hw
        exact hw
      · rw [bl_f hne] at hw ⊢
        exact hw.any hne ((cVal_k (tx := tx) (L := L) s).2 hne)
    · intro e
      rcases hb with ⟨-, e2, -⟩ | hne
      · exact e2.symm
      · exact absurd e hne
  have nodig : s.2 = -1 → isDig (sgn tx L q) = false → ((cVal tx L s).2 = (s.1, bl s.2 (nI s.1)) ∧ (cVal tx L s).1 = 0 ∧ q = s.1) := fun hm hd => by
    have e := hqs hm
    rw [e] at hd
    have hv : cVal tx L s = (0, s.1, bl s.2 (nI s.1)) := if_pos hd
    rw [hv]
    exact ⟨rfl, rfl, e⟩
  refine z_aload_n dX10_value_0 rfl ?_
  refine z_aload_n dX10_value_1 rfl ?_
  refine s_geti f_Mo_92 dX10_value_2 (by assumption) rfl ?_
  rw [h19]
  refine s_callV1 l_Mo_95 (C_Mo_signAt (p := q) hM h13 htx hL (by omega)) m0 dX10_value_5 rfl rfl (Nat.le_of_ble_eq_true rfl) ⟨⟨by decide, by decide⟩, by decide, by decide⟩ ?_
  refine z_istore_n (lv' := [_, _, _]) dX10_value_8 (by decide) rfl ?_
  refine z_aload_n dX10_value_9 rfl ?_
  refine s_geti f_Mo_89 dX10_value_10 (by assumption) rfl ?_
  refine z_if_ge 38 dX10_value_13 (by decide) (fun c13 => ?_) (fun c13 => ?_)
  · rw [h20] at c13
    have hne : s.2 ≠ -1 := fun e => by rw [e] at c13; exact absurd c13 (by decide)
    first
      | exact bad (Or.inr hne) _ _
      | exact bad (Or.inl nd) _ _
      | skip
  · rw [h20] at c13
    have hm : s.2 = -1 := (okF_neg h5).mp (Int32.not_le.mp c13)
    have hqe := hqs hm
    refine z_aload_n dX10_value_16 rfl ?_
    refine s_geti f_Mo_92 dX10_value_17 (by assumption) rfl ?_
    refine z_aload_n dX10_value_20 rfl ?_
    refine s_geti f_Mo_85 dX10_value_21 (by assumption) rfl ?_
    rw [h19, h13]
    refine z_icmp_ge 38 dX10_value_24 (by decide) (fun c24 => ?_) (fun c24 => ?_)
    · have hqL := i_le (by omega) (by omega) c24
      have nd := nodig hm (by unfold sgn; rw [if_neg (by omega)]; decide)
      first
        | exact bad (Or.inr hne) _ _
        | exact bad (Or.inl nd) _ _
        | skip
    · have hqL := i_nle (by omega) c24
      have hsg : sgn tx L q = tx q := if_pos hqL
      rw [if_pos hqL]
      refine z_iload_n dX10_value_27 rfl ?_
      refine z_bipush 48 dX10_value_28 (by decide) ?_
      refine z_bipush 57 dX10_value_30 (by decide) ?_
      refine s_callS1 l_Mo_63 (C_Mo_in) dX10_value_32 rfl rfl (Nat.le_of_ble_eq_true rfl) ⟨⟨by decide, by decide⟩, by decide, by decide⟩ ?_
      refine z_if_ne 48 dX10_value_35 (by decide) (fun c35 => ?_) (fun c35 => ?_)
      · have hdg : isDig (tx q) = true := zo_ne0.mp c35
        have hdg' := hdg
        rw [← hsg, hqe] at hdg'
        refine z_aload_n dX10_value_48 rfl ?_
        refine z_dup dX10_value_49 rfl ?_
        refine s_geti f_Mo_92 dX10_value_50 (by assumption) rfl ?_
        rw [h19]
        refine z_iconst 1 dX10_value_53 rfl ?_
        refine z_iadd dX10_value_54 ?_
        rw [nI_1]
        refine s_puti f_Mo_92 dX10_value_55 (by assumption) rfl ⟨rfl, rfl⟩ ?_
        refine z_iload_n dX10_value_58 rfl ?_
        refine z_bipush 48 dX10_value_59 (by decide) ?_
        refine z_isub dX10_value_61 ?_
        refine z_istore_n (lv' := [_, _, _]) dX10_value_62 (by decide) rfl ?_
        refine z_aload_n dX10_value_63 rfl ?_
        refine s_geti f_Mo_92 dX10_value_64 (by assumption) rfl ?_
        refine z_aload_n dX10_value_67 rfl ?_
        refine s_geti f_Mo_85 dX10_value_68 (by assumption) rfl ?_
        rw [zi_si, show zi (zsi S m 19 (nI (q + 1))) m 13 = nI L from (zi_sik (by decide)).trans h13]
        refine z_icmp_ge 135 dX10_value_71 (by decide) (fun c71 => ?_) (fun c71 => ?_)
        · have hq2 := i_le (by omega) (by omega) c71
          have hd2 : isDig (sgn tx L (s.1 + 1)) = false := by unfold sgn; rw [if_neg (by omega)]; decide
          refine z_iload_n dX10_value_135 rfl ?_
          refine z_ireturn dX10_value_136 rfl rfl ⟨Nat.le_refl _, Nat.le_refl _⟩ ?_
          first
            | (have hv1 : cVal tx L s = (sgn tx L s.1 - 48, s.1 + 1, s.2) := by
                 unfold cVal
                 rw [if_neg (by rw [hdg']; decide), if_pos hd2]
               rw [hv1]
               exact ⟨rfl, _, rfl, mS.set (Or.inl rfl), h.spot (p' := s.1 + 1) (by omega) (fun _ => by omega), _, rfl, fun _ => by rw [← hqe, hsg]⟩)
            | (have hv2 : cVal tx L s = ((tx q - 48) * 10 + tx (q + 1) - 48, s.1 + 2, s.2) := by
                 unfold cVal
                 rw [if_neg (by rw [hdg']; decide), if_neg hd2, hsg2, ← hqe, hsg, if_pos h16]
               rw [hv2]
               exact ⟨rfl, _, rfl, (mS.set (Or.inl rfl)).tr (mS.set (Or.inl rfl)), (h.spot (p' := s.1 + 1) (show q + 1 ≤ L by omega) (fun _ => by omega)).spot (p' := s.1 + 2) (by omega) (fun _ => by omega), _, rfl, fun _ => rfl⟩)
            | (have hv3 : cVal tx L s = ((tx q - 48) * 10 + tx (q + 1) - 48, s.1 + 2, bl s.2 (nI (q + 1))) := by
                 unfold cVal
                 rw [if_neg (by rw [hdg']; decide), if_neg hd2, hsg2, ← hqe, hsg, if_neg h16]
               rw [hv3]
               exact ⟨rfl, _, rfl, ((mS.set (Or.inl rfl)).tr (mS.set (Or.inr (Or.inl rfl)))).tr (mS.set (Or.inl rfl)), (((h.spot (p' := q + 1) (show q + 1 ≤ L by omega) (fun _ => rfl)).wr (y := nI (q + 1)) (nI_pos' (by omega))).spot (p' := s.1 + 2) (by omega) (fun _ => by omega)), _, rfl, fun _ => rfl⟩)
            | skip
        · have hq2 := i_nle (by omega) c71
          have hsg2 : sgn tx L (s.1 + 1) = tx (q + 1) := by rw [← hqe]; exact if_pos hq2
          refine z_aload_n dX10_value_74 rfl ?_
          refine s_getr f_Mo_42 dX10_value_75 (by assumption) rfl ?_
          refine z_aload_n dX10_value_78 rfl ?_
          refine s_geti f_Mo_92 dX10_value_79 (by assumption) rfl ?_
          rw [zi_si]
          refine s_iald dX10_value_82 a11 (vp_in_nI (by omega) (by decide)) ?_
          rw [nI_clamp (by omega), htx _ hq2]
          refine z_bipush 48 dX10_value_83 (by decide) ?_
          refine z_bipush 57 dX10_value_85 (by decide) ?_
          refine s_callS1 l_Mo_63 (C_Mo_in) dX10_value_87 rfl rfl (Nat.le_of_ble_eq_true rfl) ⟨⟨by decide, by decide⟩, by decide, by decide⟩ ?_
          refine z_if_eq 135 dX10_value_90 (by decide) (fun c90 => ?_) (fun c90 => ?_)
          · have hd2 : isDig (sgn tx L (s.1 + 1)) = false := by rw [hsg2]; exact zo_eq0.mp c90
            refine z_iload_n dX10_value_135 rfl ?_
            refine z_ireturn dX10_value_136 rfl rfl ⟨Nat.le_refl _, Nat.le_refl _⟩ ?_
            first
              | (have hv1 : cVal tx L s = (sgn tx L s.1 - 48, s.1 + 1, s.2) := by
                   unfold cVal
                   rw [if_neg (by rw [hdg']; decide), if_pos hd2]
                 rw [hv1]
                 exact ⟨rfl, _, rfl, mS.set (Or.inl rfl), h.spot (p' := s.1 + 1) (by omega) (fun _ => by omega), _, rfl, fun _ => by rw [← hqe, hsg]⟩)
              | (have hv2 : cVal tx L s = ((tx q - 48) * 10 + tx (q + 1) - 48, s.1 + 2, s.2) := by
                   unfold cVal
                   rw [if_neg (by rw [hdg']; decide), if_neg hd2, hsg2, ← hqe, hsg, if_pos h16]
                 rw [hv2]
                 exact ⟨rfl, _, rfl, (mS.set (Or.inl rfl)).tr (mS.set (Or.inl rfl)), (h.spot (p' := s.1 + 1) (show q + 1 ≤ L by omega) (fun _ => by omega)).spot (p' := s.1 + 2) (by omega) (fun _ => by omega), _, rfl, fun _ => rfl⟩)
              | (have hv3 : cVal tx L s = ((tx q - 48) * 10 + tx (q + 1) - 48, s.1 + 2, bl s.2 (nI (q + 1))) := by
                   unfold cVal
                   rw [if_neg (by rw [hdg']; decide), if_neg hd2, hsg2, ← hqe, hsg, if_neg h16]
                 rw [hv3]
                 exact ⟨rfl, _, rfl, ((mS.set (Or.inl rfl)).tr (mS.set (Or.inr (Or.inl rfl)))).tr (mS.set (Or.inl rfl)), (((h.spot (p' := q + 1) (show q + 1 ≤ L by omega) (fun _ => rfl)).wr (y := nI (q + 1)) (nI_pos' (by omega))).spot (p' := s.1 + 2) (by omega) (fun _ => by omega)), _, rfl, fun _ => rfl⟩)
              | skip
          · have hd2 : ¬ isDig (sgn tx L (s.1 + 1)) = false := by rw [hsg2]; exact fun z => zoF z c90
            refine z_bipush 10 dX10_value_93 (by decide) ?_
            refine z_iload_n dX10_value_95 rfl ?_
            refine z_imul dX10_value_96 ?_
            refine z_aload_n dX10_value_97 rfl ?_
            refine s_getr f_Mo_42 dX10_value_98 (by assumption) rfl ?_
            refine z_aload_n dX10_value_101 rfl ?_
            refine s_geti f_Mo_92 dX10_value_102 (by assumption) rfl ?_
            rw [zi_si]
            refine s_iald dX10_value_105 a11 (vp_in_nI (by omega) (by decide)) ?_
            rw [nI_clamp (by omega), htx _ hq2]
            refine z_iadd dX10_value_106 ?_
            refine z_bipush 48 dX10_value_107 (by decide) ?_
            refine z_isub dX10_value_109 ?_
            refine z_istore_n (lv' := [_, _, _]) dX10_value_110 (by decide) rfl ?_
            refine z_iload_n dX10_value_111 rfl ?_
            refine z_bipush 15 dX10_value_112 (by decide) ?_
            rw [show (10 : Int32) * (tx q - 48) + tx (q + 1) - 48 = (tx q - 48) * 10 + tx (q + 1) - 48 by rw [Int32.mul_comm]]
            refine z_icmp_le 125 dX10_value_114 (by decide) (fun c114 => ?_) (fun c114 => ?_)
            · have h16 : (tx q - 48) * 10 + tx (q + 1) - 48 < 16 := lt16.mpr c114
              refine z_aload_n dX10_value_125 rfl ?_
              refine z_dup dX10_value_126 rfl ?_
              refine s_geti f_Mo_92 dX10_value_127 (by assumption) rfl ?_
              first
                | rw [zi_si]
                | rw [zi_sik (by decide), zi_si]
              refine z_iconst 1 dX10_value_130 rfl ?_
              refine z_iadd dX10_value_131 ?_
              rw [nI_1]
              refine s_puti f_Mo_92 dX10_value_132 (by assumption) rfl ⟨rfl, rfl⟩ ?_
              refine z_iload_n dX10_value_135 rfl ?_
              refine z_ireturn dX10_value_136 rfl rfl ⟨Nat.le_refl _, Nat.le_refl _⟩ ?_
              first
                | (have hv1 : cVal tx L s = (sgn tx L s.1 - 48, s.1 + 1, s.2) := by
                     unfold cVal
                     rw [if_neg (by rw [hdg']; decide), if_pos hd2]
                   rw [hv1]
                   exact ⟨rfl, _, rfl, mS.set (Or.inl rfl), h.spot (p' := s.1 + 1) (by omega) (fun _ => by omega), _, rfl, fun _ => by rw [← hqe, hsg]⟩)
                | (have hv2 : cVal tx L s = ((tx q - 48) * 10 + tx (q + 1) - 48, s.1 + 2, s.2) := by
                     unfold cVal
                     rw [if_neg (by rw [hdg']; decide), if_neg hd2, hsg2, ← hqe, hsg, if_pos h16]
                   rw [hv2]
                   exact ⟨rfl, _, rfl, (mS.set (Or.inl rfl)).tr (mS.set (Or.inl rfl)), (h.spot (p' := s.1 + 1) (show q + 1 ≤ L by omega) (fun _ => by omega)).spot (p' := s.1 + 2) (by omega) (fun _ => by omega), _, rfl, fun _ => rfl⟩)
                | (have hv3 : cVal tx L s = ((tx q - 48) * 10 + tx (q + 1) - 48, s.1 + 2, bl s.2 (nI (q + 1))) := by
                     unfold cVal
                     rw [if_neg (by rw [hdg']; decide), if_neg hd2, hsg2, ← hqe, hsg, if_neg h16]
                   rw [hv3]
                   exact ⟨rfl, _, rfl, ((mS.set (Or.inl rfl)).tr (mS.set (Or.inr (Or.inl rfl)))).tr (mS.set (Or.inl rfl)), (((h.spot (p' := q + 1) (show q + 1 ≤ L by omega) (fun _ => rfl)).wr (y := nI (q + 1)) (nI_pos' (by omega))).spot (p' := s.1 + 2) (by omega) (fun _ => by omega)), _, rfl, fun _ => rfl⟩)
                | skip
            · have h16 : ¬ (tx q - 48) * 10 + tx (q + 1) - 48 < 16 := fun z => c114 (lt16.mp z)
              refine z_aload_n dX10_value_117 rfl ?_
              refine z_aload_n dX10_value_118 rfl ?_
              refine s_geti f_Mo_92 dX10_value_119 (by assumption) rfl ?_
              rw [zi_si]
              refine s_callV0 l_Mo_99 (C_Mo_wrong (s := (q + 1, s.2)) hM (h.spot (by omega) (fun _ => rfl))) m0 dX10_value_122 rfl rfl (Nat.le_of_ble_eq_true rfl) ⟨⟨by decide, by decide⟩, by decide, by decide⟩ ?_
              refine z_aload_n dX10_value_125 rfl ?_
              refine z_dup dX10_value_126 rfl ?_
              refine s_geti f_Mo_92 dX10_value_127 (by assumption) rfl ?_
              first
                | rw [zi_si]
                | rw [zi_sik (by decide), zi_si]
              refine z_iconst 1 dX10_value_130 rfl ?_
              refine z_iadd dX10_value_131 ?_
              rw [nI_1]
              refine s_puti f_Mo_92 dX10_value_132 (by assumption) rfl ⟨rfl, rfl⟩ ?_
              refine z_iload_n dX10_value_135 rfl ?_
              refine z_ireturn dX10_value_136 rfl rfl ⟨Nat.le_refl _, Nat.le_refl _⟩ ?_
              first
                | (have hv1 : cVal tx L s = (sgn tx L s.1 - 48, s.1 + 1, s.2) := by
                     unfold cVal
                     rw [if_neg (by rw [hdg']; decide), if_pos hd2]
                   rw [hv1]
                   exact ⟨rfl, _, rfl, mS.set (Or.inl rfl), h.spot (p' := s.1 + 1) (by omega) (fun _ => by omega), _, rfl, fun _ => by rw [← hqe, hsg]⟩)
                | (have hv2 : cVal tx L s = ((tx q - 48) * 10 + tx (q + 1) - 48, s.1 + 2, s.2) := by
                     unfold cVal
                     rw [if_neg (by rw [hdg']; decide), if_neg hd2, hsg2, ← hqe, hsg, if_pos h16]
                   rw [hv2]
                   exact ⟨rfl, _, rfl, (mS.set (Or.inl rfl)).tr (mS.set (Or.inl rfl)), (h.spot (p' := s.1 + 1) (show q + 1 ≤ L by omega) (fun _ => by omega)).spot (p' := s.1 + 2) (by omega) (fun _ => by omega), _, rfl, fun _ => rfl⟩)
                | (have hv3 : cVal tx L s = ((tx q - 48) * 10 + tx (q + 1) - 48, s.1 + 2, bl s.2 (nI (q + 1))) := by
                     unfold cVal
                     rw [if_neg (by rw [hdg']; decide), if_neg hd2, hsg2, ← hqe, hsg, if_neg h16]
                   rw [hv3]
                   exact ⟨rfl, _, rfl, ((mS.set (Or.inl rfl)).tr (mS.set (Or.inr (Or.inl rfl)))).tr (mS.set (Or.inl rfl)), (((h.spot (p' := q + 1) (show q + 1 ≤ L by omega) (fun _ => rfl)).wr (y := nI (q + 1)) (nI_pos' (by omega))).spot (p' := s.1 + 2) (by omega) (fun _ => by omega)), _, rfl, fun _ => rfl⟩)
                | skip
      · have nd := nodig hm (by rw [hsg]; exact zo_eq0.mp c35)
        first
          | exact bad (Or.inr hne) _ _
          | exact bad (Or.inl nd) _ _
          | skip
end MOK

