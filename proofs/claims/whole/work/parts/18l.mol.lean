/-! ===== the model: reading ===== -/
/-- the reader of the model as s says: C bounds the count of nodes after a fault -/
def mP (S : zSt) (m L : Nat) (tx : Nat → Int32) (k C : Nat) (s : PS) : Prop := ∃ c, mC S m L tx k c s.c ∧ (s.f = -1 → c = s.n ∧ 2 * s.n ≤ s.p ∧ rNd S m (60 * k) s.n s.nd) ∧ (s.f ≠ -1 → c ≤ C)
theorem mP.any {S : zSt} {m L k C : Nat} {tx : Nat → Int32} {s t : PS} (h : mP S m L tx k C s) (hf : s.f ≠ -1) (e : t.f = s.f) : mP S m L tx k C t := by
  obtain ⟨c, h1, -, h3⟩ := h
  exact ⟨c, h1.any hf e, fun q => absurd (e.symm.trans q) hf, fun _ => h3 hf⟩
theorem mP.up {S : zSt} {m L k C C' : Nat} {tx : Nat → Int32} {s : PS} (h : mP S m L tx k C s) (hc : C ≤ C') : mP S m L tx k C' s := by
  obtain ⟨c, h1, h2, h3⟩ := h
  exact ⟨c, h1, h2, fun q => Nat.le_trans (h3 q) hc⟩
theorem mP.pc {S S' : zSt} {m L k C c : Nat} {tx : Nat → Int32} {s : PS} {t : PC} (h : mC S' m L tx k c t) (hm : mS m S S') (hc : c = s.n) (hn : rNd S m (60 * k) s.n s.nd) (h2 : t.2 = -1 → 2 * s.n ≤ t.1) (hC : c ≤ C) : mP S' m L tx k C (psC t s) :=
  ⟨c, h, fun q => ⟨hc, h2 q, hm.nd hn⟩, fun _ => hC⟩
/-- one node more, written at place c -/
def ndS (S : zSt) (m a c : Nat) (s p l h o t : Int32) : zSt := zsi (zsa (zsa (zsa (zsa (zsa (zsa S (m + 5) a s) (m + 6) a p) (m + 7) a l) (m + 8) a h) (m + 9) a o) (m + 10) a t) m 21 (nI (c + 1))
theorem ndS_at {S : zSt} {m a c j : Nat} {s p l h o t : Int32} : za (ndS S m a c s p l h o t) (m + 5) j = (if j = a then s else za S (m + 5) j) ∧ za (ndS S m a c s p l h o t) (m + 6) j = (if j = a then p else za S (m + 6) j) ∧ za (ndS S m a c s p l h o t) (m + 7) j = (if j = a then l else za S (m + 7) j) ∧ za (ndS S m a c s p l h o t) (m + 8) j = (if j = a then h else za S (m + 8) j) ∧ za (ndS S m a c s p l h o t) (m + 9) j = (if j = a then o else za S (m + 9) j) ∧ za (ndS S m a c s p l h o t) (m + 10) j = (if j = a then t else za S (m + 10) j) := by
  unfold ndS
  by_cases e : j = a
  · subst e
    rw [if_pos rfl, if_pos rfl, if_pos rfl, if_pos rfl, if_pos rfl, if_pos rfl]
    exact ⟨(zup_ne (by omega)).trans ((zup_ne (by omega)).trans ((zup_ne (by omega)).trans ((zup_ne (by omega)).trans ((zup_ne (by omega)).trans zup_same)))), (zup_ne (by omega)).trans ((zup_ne (by omega)).trans ((zup_ne (by omega)).trans ((zup_ne (by omega)).trans zup_same))), (zup_ne (by omega)).trans ((zup_ne (by omega)).trans ((zup_ne (by omega)).trans zup_same)), (zup_ne (by omega)).trans ((zup_ne (by omega)).trans zup_same), (zup_ne (by omega)).trans zup_same, zup_same⟩
  · rw [if_neg e, if_neg e, if_neg e, if_neg e, if_neg e, if_neg e]
    refine ⟨?_, ?_, ?_, ?_, ?_, ?_⟩ <;> exact (zup_ne (by omega)).trans ((zup_ne (by omega)).trans ((zup_ne (by omega)).trans ((zup_ne (by omega)).trans ((zup_ne (by omega)).trans (zup_ne (by omega))))))
theorem ndS_o {S : zSt} {m a c b : Nat} {s p l h o t : Int32} (h1 : b ≠ m) (h2 : b < m + 5 ∨ m + 11 ≤ b) : zag S (ndS S m a c s p l h o t) b := by
  unfold ndS
  refine ⟨zup_off h1, rfl, ?_, rfl⟩
  show zup (zup (zup (zup (zup (zup S.2.2.1 _ _ _) _ _ _) _ _ _) _ _ _) _ _ _) _ _ _ b = _
  rw [zup_off (by omega), zup_off (by omega), zup_off (by omega), zup_off (by omega), zup_off (by omega), zup_off (by omega)]
theorem ndS_ps {S : zSt} {m k a c : Nat} {s p l h o t : Int32} (ha : 60 * k ≤ a) : psS m k S (ndS S m a c s p l h o t) := by
  refine ⟨fun b h1 h2 => ndS_o h1 h2, fun j j1 j2 j3 => zup_ne (by omega), fun b i b1 b2 hi => ?_⟩
  obtain ⟨e5, e6, e7, e8, e9, e10⟩ := ndS_at (S := S) (m := m) (a := a) (c := c) (j := i) (s := s) (p := p) (l := l) (h := h) (o := o) (t := t)
  rw [if_neg (by omega)] at e5 e6 e7 e8 e9 e10
  rcases (by omega : b = m + 5 ∨ b = m + 6 ∨ b = m + 7 ∨ b = m + 8 ∨ b = m + 9 ∨ b = m + 10) with rfl | rfl | rfl | rfl | rfl | rfl
  · exact e5
  · exact e6
  · exact e7
  · exact e8
  · exact e9
  · exact e10
/-- the node in numbers -/
def ndM (b : Nat) (x : Ndx) (s p l h o t : Int32) : Prop := s = nI x.1 ∧ p = nI x.2.1 ∧ l = nI x.2.2.1 ∧ h = nI x.2.2.2.1 ∧ (4 ≤ x.1 → o = nI (b + x.2.2.2.2.1)) ∧ (5 ≤ x.1 → t = nI (b + x.2.2.2.2.2))
theorem ndS_nd {S : zSt} {m b c : Nat} {nd : Nd} {x : Ndx} {s p l h o t : Int32} (hn : rNd S m b c nd) (hx : ndM b x s p l h o t) : rNd (ndS S m (b + c) c s p l h o t) m b (c + 1) (ndPush nd c x) := by
  intro i hi
  obtain ⟨e5, e6, e7, e8, e9, e10⟩ := ndS_at (S := S) (m := m) (a := b + c) (c := c) (j := b + i) (s := s) (p := p) (l := l) (h := h) (o := o) (t := t)
  by_cases q : i = c
  · subst q
    rw [if_pos rfl] at e5 e6 e7 e8 e9 e10
    have en : ndPush nd i x i = x := ndPush_at
    obtain ⟨x1, x2, x3, x4, x5, x6⟩ := hx
    unfold nS nC nL nH nO nT
    rw [en, e5, e6, e7, e8, e9, e10]
    exact ⟨x1, x2, x3, x4, x5, x6⟩
  · rw [if_neg (by omega)] at e5 e6 e7 e8 e9 e10
    have en : ndPush nd c x i = nd i := ndPush_lt (by omega)
    unfold nS nC nL nH nO nT
    rw [en, e5, e6, e7, e8, e9, e10]
    exact hn i (by omega)
theorem mC.nd {S : zSt} {m L k c a : Nat} {tx : Nat → Int32} {pc : PC} {s p l h o t : Int32} (hc : mC S m L tx k c pc) : mC (ndS S m a c s p l h o t) m L tx k (c + 1) pc := by
  obtain ⟨h13, htx, h4, h22, h5, h20, h21, q, h19, hq, hqs⟩ := hc
  refine ⟨(zup_ne (by omega)).trans h13, fun i hi => ?_, (zup_ne (by omega)).trans h4, (zup_ne (by omega)).trans h22, h5, (zup_ne (by omega)).trans h20, zup_same, q, (zup_ne (by omega)).trans h19, hq, hqs⟩
  exact (congrFun (ndS_o (S := S) (m := m) (a := a) (c := c) (b := m + 11) (s := s) (p := p) (l := l) (h := h) (o := o) (t := t) (by omega) (by omega)).2.2.1 i).trans (htx i hi)
section MOL
variable {G : zG} {sh : Nat → Option zSh} {S : zSt} {m L k c p C : Nat} {tx : Nat → Int32} {s : PS} {pc : PC}
theorem C_Mo_node {x1 x2 x3 x4 x5 x6 : Int32} (hM : tMo sh m) (h : mC S m L tx k c pc) (hk : k < 8) (hc : c < 60) : zD G m_Mo_node 1 sh [.ref m, .int x1, .int x2, .int x3, .int x4, .int x5, .int x6] S (some (.int (nI (60 * k + c)))) (ndS S m (60 * k + c) c x1 x2 x3 x4 x5 x6) := by
  obtain ⟨m0, a1, a2, a3, a4, a5, a6, a7, a8, a9, a10, a11, a12, a13, a14, a15, a16, a22⟩ := id hM
  obtain ⟨h13, htx, h4, h22, h5, h20, h21, q, h19, hq, hqs⟩ := id h
  have cl : (nI (60 * k + c)).toNatClampNeg = 60 * k + c := nI_clamp (by omega)
  refine s_methD 1 ⟨p_Mo, rfl, Nat.le_of_ble_eq_true rfl⟩ rfl (fun sz => ?_)
  refine z_aload_n dX10_node_0 rfl ?_
  refine s_geti f_Mo_108 dX10_node_1 (by assumption) rfl ?_
  refine z_aload_n dX10_node_4 rfl ?_
  refine s_geti f_Mo_111 dX10_node_5 (by assumption) rfl ?_
  rw [h22, h21]
  refine z_iadd dX10_node_8 ?_
  rw [nI_add]
  refine z_istore (lv' := [_, _, _, _, _, _, _, _]) dX10_node_9 (by decide) rfl ?_
  refine z_aload_n dX10_node_11 rfl ?_
  refine s_geti f_Mo_111 dX10_node_12 (by assumption) rfl ?_
  refine z_bipush 60 dX10_node_15 (by decide) ?_
  rw [h21]
  refine z_icmp_ge 80 dX10_node_17 (by decide) (fun c17 => ?_) (fun c17 => ?_)
  · exact absurd c17 (nI_ge (b := 60) hc (by decide))
  · refine z_aload_n dX10_node_20 rfl ?_
    refine s_geti f_Mo_114 dX10_node_21 (by assumption) rfl ?_
    refine z_bipush 8 dX10_node_24 (by decide) ?_
    rw [h4]
    refine z_icmp_ge 80 dX10_node_26 (by decide) (fun c26 => ?_) (fun c26 => ?_)
    · exact absurd c26 (nI_ge (b := 8) hk (by decide))
    · refine z_aload_n dX10_node_29 rfl ?_
      refine s_getr f_Mo_24 dX10_node_30 (by assumption) rfl ?_
      refine z_iload dX10_node_33 rfl ?_
      refine z_iload_n dX10_node_35 rfl ?_
      refine s_iast dX10_node_36 a5 (vp_in_nI (by omega) (by decide)) ?_
      rw [cl]
      refine z_aload_n dX10_node_37 rfl ?_
      refine s_getr f_Mo_27 dX10_node_38 (by assumption) rfl ?_
      refine z_iload dX10_node_41 rfl ?_
      refine z_iload_n dX10_node_43 rfl ?_
      refine s_iast dX10_node_44 a6 (vp_in_nI (by omega) (by decide)) ?_
      rw [cl]
      refine z_aload_n dX10_node_45 rfl ?_
      refine s_getr f_Mo_30 dX10_node_46 (by assumption) rfl ?_
      refine z_iload dX10_node_49 rfl ?_
      refine z_iload_n dX10_node_51 rfl ?_
      refine s_iast dX10_node_52 a7 (vp_in_nI (by omega) (by decide)) ?_
      rw [cl]
      refine z_aload_n dX10_node_53 rfl ?_
      refine s_getr f_Mo_33 dX10_node_54 (by assumption) rfl ?_
      refine z_iload dX10_node_57 rfl ?_
      refine z_iload dX10_node_59 rfl ?_
      refine s_iast dX10_node_61 a8 (vp_in_nI (by omega) (by decide)) ?_
      rw [cl]
      refine z_aload_n dX10_node_62 rfl ?_
      refine s_getr f_Mo_36 dX10_node_63 (by assumption) rfl ?_
      refine z_iload dX10_node_66 rfl ?_
      refine z_iload dX10_node_68 rfl ?_
      refine s_iast dX10_node_70 a9 (vp_in_nI (by omega) (by decide)) ?_
      rw [cl]
      refine z_aload_n dX10_node_71 rfl ?_
      refine s_getr f_Mo_39 dX10_node_72 (by assumption) rfl ?_
      refine z_iload dX10_node_75 rfl ?_
      refine z_iload dX10_node_77 rfl ?_
      refine s_iast dX10_node_79 a10 (vp_in_nI (by omega) (by decide)) ?_
      rw [cl]
      refine z_aload_n dX10_node_80 rfl ?_
      refine z_dup dX10_node_81 rfl ?_
      refine s_geti f_Mo_111 dX10_node_82 (by assumption) rfl ?_
      rw [show zi (zsa (zsa (zsa (zsa (zsa (zsa S (m + 5) (60 * k + c) x1) (m + 6) (60 * k + c) x2) (m + 7) (60 * k + c) x3) (m + 8) (60 * k + c) x4) (m + 9) (60 * k + c) x5) (m + 10) (60 * k + c) x6) m 21 = nI c from h21]
      refine z_iconst 1 dX10_node_85 rfl ?_
      refine z_iadd dX10_node_86 ?_
      rw [nI_1]
      refine s_puti f_Mo_111 dX10_node_87 (by assumption) rfl ⟨rfl, rfl⟩ ?_
      refine z_iload dX10_node_90 rfl ?_
      refine z_ireturn dX10_node_92 rfl rfl ⟨Nat.le_refl _, Nat.le_refl _⟩ ?_
      exact ⟨rfl, rfl, rfl⟩
theorem C_Mo_nodeX {x1 x2 x3 x4 x5 x6 : Int32} (hM : tMo sh m) (h : mC S m L tx k c pc) (hc : 60 ≤ c) (hc2 : c < 2000) (hk : k < 8) : zD G m_Mo_node 1 sh [.ref m, .int x1, .int x2, .int x3, .int x4, .int x5, .int x6] S (some (.int (nI (60 * k + c)))) (zsi S m 21 (nI (c + 1))) := by
  obtain ⟨m0, a1, a2, a3, a4, a5, a6, a7, a8, a9, a10, a11, a12, a13, a14, a15, a16, a22⟩ := id hM
  obtain ⟨h13, htx, h4, h22, h5, h20, h21, q, h19, hq, hqs⟩ := id h
  refine s_methD 1 ⟨p_Mo, rfl, Nat.le_of_ble_eq_true rfl⟩ rfl (fun sz => ?_)
  refine z_aload_n dX10_node_0 rfl ?_
  refine s_geti f_Mo_108 dX10_node_1 (by assumption) rfl ?_
  refine z_aload_n dX10_node_4 rfl ?_
  refine s_geti f_Mo_111 dX10_node_5 (by assumption) rfl ?_
  rw [h22, h21]
  refine z_iadd dX10_node_8 ?_
  rw [nI_add]
  refine z_istore (lv' := [_, _, _, _, _, _, _, _]) dX10_node_9 (by decide) rfl ?_
  refine z_aload_n dX10_node_11 rfl ?_
  refine s_geti f_Mo_111 dX10_node_12 (by assumption) rfl ?_
  refine z_bipush 60 dX10_node_15 (by decide) ?_
  rw [h21]
  refine z_icmp_ge 80 dX10_node_17 (by decide) (fun c17 => ?_) (fun c17 => ?_)
  · refine z_aload_n dX10_node_80 rfl ?_
    refine z_dup dX10_node_81 rfl ?_
    refine s_geti f_Mo_111 dX10_node_82 (by assumption) rfl ?_
    rw [h21]
    refine z_iconst 1 dX10_node_85 rfl ?_
    refine z_iadd dX10_node_86 ?_
    rw [nI_1]
    refine s_puti f_Mo_111 dX10_node_87 (by assumption) rfl ⟨rfl, rfl⟩ ?_
    refine z_iload dX10_node_90 rfl ?_
    refine z_ireturn dX10_node_92 rfl rfl ⟨Nat.le_refl _, Nat.le_refl _⟩ ?_
    exact ⟨rfl, rfl, rfl⟩
  · exact absurd (nI_le (a := 60) hc (by omega)) c17
theorem mC.cnt {c' : Nat} (hc : mC S m L tx k c pc) : mC (zsi S m 21 (nI c')) m L tx k c' pc := by
  obtain ⟨h13, htx, h4, h22, h5, h20, h21, q, h19, hq, hqs⟩ := hc
  exact ⟨(zi_sik (by decide)).trans h13, htx, (zi_sik (by decide)).trans h4, (zi_sik (by decide)).trans h22, h5, (zi_sik (by decide)).trans h20, zi_si, q, (zi_sik (by decide)).trans h19, hq, hqs⟩
theorem zC_mono {M : zM} {d mc ms sz : Nat} {av : List Value} {ah : zH} {Q Q' : zPost} (h : zC G M d mc ms av ah sz Q) (hq : ∀ r a z, Q r a z → Q' r a z) : zC G M d mc ms av ah sz Q' := by
  intro l p e ha hc hk s m args below hf happ hP ht
  obtain ⟨k, o, h1, h2, h3, hQ, hL⟩ := h l p e ha hc hk s m args below hf happ hP ht
  obtain ⟨⟨r, a, z, e1, e2, e3⟩, e4⟩ := hQ
  exact ⟨k, o, h1, h2, h3, ⟨⟨r, a, z, e1, hq _ _ _ e2, e3⟩, e4⟩, hL⟩
theorem zD_R {M : zM} {d : Nat} {av : List Value} {r : Option Value} {S' : zSt} {P : Option Value → zSt → Prop} (h : zD G M d sh av S r S') (hP : P r S') : zR G M d sh av S P := fun sz => zC_mono (h sz) (fun r' a z q => by
  obtain ⟨e1, e2, e3⟩ := q
  subst e1
  exact ⟨e3, S', e2, hP⟩)
theorem zR_mono {M : zM} {d : Nat} {av : List Value} {P P' : Option Value → zSt → Prop} (h : zR G M d sh av S P) (hP : ∀ r S', P r S' → P' r S') : zR G M d sh av S P' := fun sz => zC_mono (h sz) (fun r' a z q => by
  obtain ⟨e1, S', e2, e3⟩ := q
  exact ⟨e1, S', e2, hP _ _ e3⟩)
/-- the node that comes, where it reads on -/
theorem C_Mo_nodeP {x : Ndx} {x1 x2 x3 x4 x5 x6 : Int32} {n : Nat} {nd : Nd} {t : PC} (hM : tMo sh m) (hk : k < 8) (h : mC S m L tx k c t) (h0 : t.2 = -1 → c = n ∧ n < 60 ∧ rNd S m (60 * k) n nd ∧ 2 * (n + 1) ≤ t.1 ∧ ndM (60 * k) x x1 x2 x3 x4 x5 x6) (hC : t.2 ≠ -1 → c + 1 ≤ C) (hC2 : C ≤ 1000) : zR G m_Mo_node 1 sh [.ref m, .int x1, .int x2, .int x3, .int x4, .int x5, .int x6] S (fun r S' => psS m k S S' ∧ mP S' m L tx k C (t.1, t.2, n + 1, ndPush nd n x) ∧ ∃ z, r = some (.int z) ∧ (t.2 = -1 → z = nI (60 * k + n))) := by
  rcases Nat.lt_or_ge c 60 with hc | hc
  · refine zD_R (C_Mo_node hM h hk hc) ⟨ndS_ps (by omega), ⟨c + 1, h.nd, fun q => ?_, fun q => hC q⟩, _, rfl, fun q => by rw [(h0 q).1]⟩
    obtain ⟨e1, e2, e3, e4, e5⟩ := h0 q
    refine ⟨by show c + 1 = n + 1; omega, e4, ?_⟩
    subst e1
    exact ndS_nd e3 e5
  · have hne : t.2 ≠ -1 := fun q => by have := h0 q; omega
    have h1 := hC hne
    exact zD_R (C_Mo_nodeX hM h hc (by omega) hk) ⟨(mS.set (Or.inr (Or.inr rfl))).ps, ⟨c + 1, h.cnt, fun q => absurd q hne, fun _ => h1⟩, _, rfl, fun q => absurd q hne⟩
end MOL
/-! a question, where its column stands -/
section QU
variable {tx : Nat → Int32} {L : Nat} {s : PS}
abbrev qA (tx : Nat → Int32) (L : Nat) (s : PS) : PC := cPass tx L 32 (zq1 tx L s.c).2
abbrev qB (tx : Nat → Int32) (L : Nat) (s : PS) : PC := cPass tx L 32 (zq2 tx L s.c).2
abbrev qD (tx : Nat → Int32) (L : Nat) (s : PS) : PC := cPass tx L 46 (cPass tx L 46 (zq3 tx L s.c).2)
theorem pQ_1 (h : (zq2 tx L s.c).1 = 1) : pQ tx L s = psN (1, iN (zq1 tx L s.c).1, iN (zq3 tx L s.c).1, iN (zq3 tx L s.c).1, 0, 0) (psC (zq3 tx L s.c).2 s) := by unfold pQ; rw [if_pos h]
theorem pQ_2 (h : (zq2 tx L s.c).1 = 2) : pQ tx L s = psN (2, iN (zq1 tx L s.c).1, iN (zq3 tx L s.c).1, iN (zq3 tx L s.c).1, 0, 0) (psC (zq3 tx L s.c).2 s) := by unfold pQ; rw [if_neg (by rw [h]; decide), if_pos h]
theorem pQ_3 (h : (zq2 tx L s.c).1 = 3) : pQ tx L s = psN (3, iN (zq1 tx L s.c).1, iN (zq3 tx L s.c).1, iN (zq4 tx L s.c).1, 0, 0) (psC (zq4 tx L s.c).2 s) := by unfold pQ; rw [if_neg (by rw [h]; decide), if_neg (by rw [h]; decide), if_pos h]
theorem pQ_0 (h : (zq2 tx L s.c).1 = -1) : pQ tx L s = psC (zq2 tx L s.c).2 s := by unfold pQ; rw [if_neg (by rw [h]; decide), if_neg (by rw [h]; decide), if_neg (by rw [h]; decide)]
/-- a fault ahead stays -/
theorem pQ_z2 (h : (zq2 tx L s.c).2.2 ≠ -1) : (pQ tx L s).f = (zq2 tx L s.c).2.2 := by
  have k3 : keepC L (zq2 tx L s.c).2 (zq3 tx L s.c).2 := (cPass_k (by decide) _).trans (cVal_k _)
  have k4 : keepC L (zq2 tx L s.c).2 (zq4 tx L s.c).2 := ((k3.trans (cPass_k (by decide) _)).trans (cPass_k (by decide) _)).trans (cVal_k _)
  unfold pQ
  split
  · exact k3.2 h
  · split
    · exact k3.2 h
    · split
      · exact k4.2 h
      · rfl
theorem pQ_fA (h : (qA tx L s).2 ≠ -1) : (pQ tx L s).f = (qA tx L s).2 := by
  have e : (zq2 tx L s.c).2.2 = (qA tx L s).2 := (cSort_k (tx := tx) (L := L) (qA tx L s)).2 h
  exact (pQ_z2 (by rw [e]; exact h)).trans e
end QU
section MOQ
variable {G : zG} {sh : Nat → Option zSh} {S : zSt} {m L k c p C : Nat} {tx : Nat → Int32} {s : PS} {pc : PC}
abbrev qPost (m L : Nat) (tx : Nat → Int32) (k C : Nat) (S : zSt) (t : PS) : Option Value → zSt → Prop := fun r S' => psS m k S S' ∧ mP S' m L tx k C t ∧ ∃ z, r = some (.int z) ∧ (t.f = -1 → z = nI (60 * k + (t.n - 1)))
theorem C_Mo_columnHere (hM : tMo sh m) (hk : k < 8) (hL : L ≤ 100) (h : mP S m L tx k C s) (hf : s.f = -1) (hcol : (97 ≤ sgn tx L s.p ∧ sgn tx L s.p < 101) ∧ isLet (sgn tx L (s.p + 1)) = false) (hC : 61 ≤ C) (hC2 : C ≤ 1000) : zR G m_Mo_columnHere 5 sh [.ref m, .int (sgn tx L s.p - 97)] S (qPost m L tx k C S (pQ tx L s)) := by
  obtain ⟨m0, a1, a2, a3, a4, a5, a6, a7, a8, a9, a10, a11, a12, a13, a14, a15, a16, a22⟩ := id hM
  obtain ⟨c, hc, hn, -⟩ := h
  obtain ⟨hcn, hnp, hnd⟩ := hn hf
  obtain ⟨h13, htx, h4, h22, h5, h20, h21, q, h19, hq, hqs⟩ := id hc
  have hqs : q = s.p := hqs hf
  have hpL : s.p < L := sgn_in (tx := tx) (fun e => by rw [e] at hcol; exact absurd hcol.1.1 (by decide))
  have z1 : zq1 tx L s.c = (sgn tx L s.p - 97, s.p + 1, s.f) := if_pos hcol
  have z1a : (zq1 tx L s.c).1 = sgn tx L s.p - 97 := by rw [z1]
  have z1b : (zq1 tx L s.c).2 = (s.p + 1, s.f) := by rw [z1]
  obtain ⟨cv, cv4, ecv⟩ : ∃ v, v < 4 ∧ (zq1 tx L s.c).1 = nI v := (cCol_ok (tx := tx) (L := L) (s := s.c) (by show s.p < 2 ^ 30; omega) (by show (zq1 tx L s.c).2.2 = -1; rw [z1b]; exact hf)).2.1
  have hk1 := hc.spot (p := s.p + 1) (p' := s.p + 1) (by omega) (fun _ => rfl)
  have eA : cPass tx L 32 (s.p + 1, s.c.2) = qA tx L s := by rw [← z1b]
  have okq := fun e => pQ_ok (tx := tx) hL s (show s.p ≤ L by omega) e
  refine s_meth 2 ⟨p_Mo, rfl, Nat.le_of_ble_eq_true rfl⟩ rfl (fun sz => ?_)
  have k50 : ∀ i kk S1, mS m S S1 → mC S1 m L tx k c (qA tx L s) → (qA tx L s).2 = -1 → ((i = 4 ∧ kk = 1) ∨ (i = 5 ∧ kk = 2) ∨ (i = 6 ∧ kk = 3)) → isW tx L (qA tx L s).1 i = true → zq2 tx L s.c = (nI kk, (qA tx L s).1 + wln i, (qA tx L s).2) → ∀ z3, zW G m_Mo_columnHere (zRm 5 0 0) (zFm G (zP sh sz (qPost m L tx k C S (pQ tx L s))) 0 0) 0 0 50 [some (.ref m), some (.int (sgn tx L s.p - 97)), some (.int (wV tx L (qA tx L s).1)), z3] [] (zhp sh S1) sz := by
    intro i kk S1 f1 f2 f3 hik hW z2 z3
    have hi : i < 7 := by omega
    have hw := (wv_is (tx := tx) (L := L) (p := (qA tx L s).1) hi).mpr hW
    have hwE := isW_wE hi hW
    have hwL := isW_in hi hW
    have z2a : (zq2 tx L s.c).1 = nI kk := by rw [z2]
    have z2b : (zq2 tx L s.c).2 = ((qA tx L s).1 + wln i, (qA tx L s).2) := by rw [z2]
    obtain ⟨y13, ytx, y4, y22, y5, y20, y21, q1, y19, yq, yqs⟩ := id f2
    have yqs := yqs f3
    have g2 := f2.spot (p := (qA tx L s).1 + wln i) (p' := (qA tx L s).1 + wln i) hwL (fun _ => rfl)
    rw [← z2b] at g2
    have i4 : i = 4 → kk = 1 := fun e => by omega
    have i5 : i = 5 → kk = 2 := fun e => by omega
    have i6 : i = 6 → kk = 3 := fun e => by omega
    refine z_aload_n dX10_columnHere_50 rfl ?_
    refine z_aload_n dX10_columnHere_51 rfl ?_
    refine s_callV1 l_Mo_103 (C_Mo_wordEnd (p := (qA tx L s).1) hM y13 ytx hL (by rw [y19, yqs]) (by omega)) m0 dX10_columnHere_52 rfl rfl (Nat.le_of_ble_eq_true rfl) ⟨⟨by decide, by decide⟩, by decide, by decide⟩ ?_
    rw [hwE]
    refine s_puti f_Mo_92 dX10_columnHere_55 (by assumption) rfl ⟨rfl, rfl⟩ ?_
    refine z_aload_n dX10_columnHere_58 rfl ?_
    refine z_bipush 32 dX10_columnHere_59 (by decide) ?_
    refine n_callV0 l_Mo_117 (C_Mo_must hM g2 hL (by decide)) m0 dX10_columnHere_61 rfl rfl (Nat.le_of_ble_eq_true rfl) ⟨⟨by decide, by decide⟩, by decide, by decide⟩ (fun S61 q61 => ?_)
    have m61 := f1.tr ((mS.set (Or.inl rfl)).tr q61.1)
    refine z_aload_n dX10_columnHere_64 rfl ?_
    refine s_callV l_Mo_124 (C_Mo_value hM q61.2 hL) m0 dX10_columnHere_65 rfl rfl (Nat.le_of_ble_eq_true rfl) ⟨⟨by decide, by decide⟩, by decide, by decide⟩ (fun r65 S65 q65 => ?_)
    obtain ⟨v1, v2, z, rfl, v3⟩ := q65
    have m65 := m61.tr v1
    refine z_istore_n (lv' := [_, _, _, _]) dX10_columnHere_68 (by decide) rfl ?_
    refine z_iload_n dX10_columnHere_69 rfl ?_
    refine z_sipush 302 dX10_columnHere_70 (by decide) ?_
    refine z_icmp_eq 98 dX10_columnHere_73 (by decide) (fun c73 => ?_) (fun c73 => ?_)
    · have e6 : i = 6 := by
        rcases hik with ⟨e, -⟩ | ⟨e, -⟩ | ⟨e, -⟩
        · subst e; rw [hw] at c73; exact absurd c73 (by decide)
        · subst e; rw [hw] at c73; exact absurd c73 (by decide)
        · exact e
      have hz3 : (zq2 tx L s.c).1 = 3 := by rw [z2a, i6 e6]; rfl
      have ep := pQ_3 hz3
      refine z_aload_n dX10_columnHere_98 rfl ?_
      refine z_bipush 46 dX10_columnHere_99 (by decide) ?_
      refine n_callV0 l_Mo_117 (C_Mo_must hM v2 hL (by decide)) m0 dX10_columnHere_101 rfl rfl (Nat.le_of_ble_eq_true rfl) ⟨⟨by decide, by decide⟩, by decide, by decide⟩ (fun S101 q101 => ?_)
      refine z_aload_n dX10_columnHere_104 rfl ?_
      refine z_bipush 46 dX10_columnHere_105 (by decide) ?_
      refine n_callV0 l_Mo_117 (C_Mo_must hM q101.2 hL (by decide)) m0 dX10_columnHere_107 rfl rfl (Nat.le_of_ble_eq_true rfl) ⟨⟨by decide, by decide⟩, by decide, by decide⟩ (fun S107 q107 => ?_)
      refine z_aload_n dX10_columnHere_110 rfl ?_
      refine z_iconst 3 dX10_columnHere_111 rfl ?_
      refine z_iload_n dX10_columnHere_112 rfl ?_
      refine z_iload_n dX10_columnHere_113 rfl ?_
      refine z_aload_n dX10_columnHere_114 rfl ?_
      refine s_callV l_Mo_124 (C_Mo_value hM q107.2 hL) m0 dX10_columnHere_115 rfl rfl (Nat.le_of_ble_eq_true rfl) ⟨⟨by decide, by decide⟩, by decide, by decide⟩ (fun r115 S115 q115 => ?_)
      obtain ⟨w1, w2, z', rfl, w3⟩ := q115
      have m115 := m65.tr ((q101.1.tr q107.1).tr w1)
      refine z_iconst 0 dX10_columnHere_118 rfl ?_
      refine z_iconst 0 dX10_columnHere_119 rfl ?_
      refine s_callV l_Mo_127 (C_Mo_nodeP (C := C) (n := s.n) (nd := s.nd) (x := (3, iN (zq1 tx L s.c).1, iN (zq3 tx L s.c).1, iN (zq4 tx L s.c).1, 0, 0)) hM hk w2 (fun e => ?_) (fun _ => by omega) hC2) m0 dX10_columnHere_120 rfl rfl (Nat.le_of_ble_eq_true rfl) ⟨⟨by decide, by decide⟩, by decide, by decide⟩ (fun r120 S120 q120 => ?_)
      · have e : (zq4 tx L s.c).2.2 = -1 := e
        have e3 := zq4_ok3 e
        have ok := okq (by rw [ep]; exact e)
        rw [ep] at ok
        have ok2 : s.p + 2 * (s.n + 1) ≤ (zq4 tx L s.c).2.1 + 2 * s.n := ok.2
        have eB : (qB tx L s).2 = -1 := (cVal_k (tx := tx) (L := L) (qB tx L s)).back e3
        have ez := v3 eB
        obtain ⟨vv, h16, h17⟩ := zq3_ok (tx := tx) (L := L) (s := s.c) (show s.p ≤ L by omega) hL e3
        have eD : (qD tx L s).2 = -1 := (cVal_k (tx := tx) (L := L) (qD tx L s)).back e
        have ez' := w3 eD
        obtain ⟨vw, h18, h19'⟩ := zq4_ok (tx := tx) (L := L) (s := s.c) (show s.p ≤ L by omega) hL e
        refine ⟨hcn, by omega, m115.nd hnd, by show 2 * (s.n + 1) ≤ (zq4 tx L s.c).2.1; omega, rfl, ?_, ?_, ?_, fun g => ?_, fun g => ?_⟩
        · show sgn tx L s.p - 97 = nI (iN (zq1 tx L s.c).1)
          rw [ecv, iN_nI (by omega), ← ecv, z1a]
        · show z = nI (iN (zq3 tx L s.c).1)
          rw [h17, iN_nI (by omega), ← h17]
          exact ez
        · show z' = nI (iN (zq4 tx L s.c).1)
          rw [h19', iN_nI (by omega), ← h19']
          exact ez'
        · exact absurd g (by show ¬ 4 ≤ 3; decide)
        · exact absurd g (by show ¬ 5 ≤ 3; decide)
      · obtain ⟨n1, n2, z9, rfl, n3⟩ := q120
        refine z_ireturn dX10_columnHere_123 rfl rfl ⟨Nat.le_refl _, Nat.le_refl _⟩ ?_
        refine ⟨rfl, _, rfl, m115.ps.tr n1, by rw [ep]; exact n2, z9, rfl, fun e => ?_⟩
        rw [ep] at e ⊢
        exact n3 e
    · have e6 : ¬ i = 6 := fun e => by subst e; exact c73 hw
      refine z_aload_n dX10_columnHere_76 rfl ?_
      refine z_iload_n dX10_columnHere_77 rfl ?_
      refine z_sipush 307 dX10_columnHere_78 (by decide) ?_
      refine z_icmp_ne 88 dX10_columnHere_81 (by decide) (fun c81 => ?_) (fun c81 => ?_)
      · have e4 : i = 5 := by
          rcases hik with ⟨e, -⟩ | ⟨e, -⟩ | ⟨e, -⟩
          · subst e; exact absurd hw c81
          · exact e
          · exact absurd e e6
        have hz3 : (zq2 tx L s.c).1 = 2 := by rw [z2a, i5 e4]; rfl
        have ep := pQ_2 hz3
        refine z_iconst 2 dX10_columnHere_88 rfl ?_
        have hnode : ∀ kk' : Nat, kk' ≤ 3 → pQ tx L s = psN (kk', iN (zq1 tx L s.c).1, iN (zq3 tx L s.c).1, iN (zq3 tx L s.c).1, 0, 0) (psC (zq3 tx L s.c).2 s) → zW G m_Mo_columnHere (zRm 5 0 0) (zFm G (zP sh sz (qPost m L tx k C S (pQ tx L s))) 0 0) 0 0 89 [some (.ref m), some (.int (sgn tx L s.p - 97)), some (.int (wV tx L (qA tx L s).1)), some (.int z)] [.int (nI kk'), .ref m] (zhp sh S65) sz := by
          intro kk' hk3 ep
          have hq3 : (zq3 tx L s.c).2.2 = -1 → (zq3 tx L s.c).1 = z ∧ ∃ vv, vv < 16 ∧ z = nI vv := fun e => by
            have e1 := zq3_ok2 e
            have eB : (qB tx L s).2 = -1 := (cVal_k (tx := tx) (L := L) (qB tx L s)).back e
            have ez := v3 eB
            obtain ⟨vv, h16, h17⟩ := zq3_ok (tx := tx) (L := L) (s := s.c) (show s.p ≤ L by omega) hL e
            exact ⟨ez.symm, vv, h16, ez.trans h17⟩
          refine z_iload_n dX10_columnHere_89 rfl ?_
          refine z_iload_n dX10_columnHere_90 rfl ?_
          refine z_iload_n dX10_columnHere_91 rfl ?_
          refine z_iconst 0 dX10_columnHere_92 rfl ?_
          refine z_iconst 0 dX10_columnHere_93 rfl ?_
          refine s_callV l_Mo_127 (C_Mo_nodeP (C := C) (n := s.n) (nd := s.nd) (x := (kk', iN (zq1 tx L s.c).1, iN (zq3 tx L s.c).1, iN (zq3 tx L s.c).1, 0, 0)) hM hk v2 (fun e => ?_) (fun _ => by omega) hC2) m0 dX10_columnHere_94 rfl rfl (Nat.le_of_ble_eq_true rfl) ⟨⟨by decide, by decide⟩, by decide, by decide⟩ (fun r94 S94 q94 => ?_)
          · have ok := okq (by rw [ep]; exact e)
            rw [ep] at ok
            have ok2 : s.p + 2 * (s.n + 1) ≤ (zq3 tx L s.c).2.1 + 2 * s.n := ok.2
            obtain ⟨ez, vv, h16, h17⟩ := hq3 e
            refine ⟨hcn, by omega, m65.nd hnd, by show 2 * (s.n + 1) ≤ (zq3 tx L s.c).2.1; omega, rfl, ?_, ?_, ?_, fun g => ?_, fun g => ?_⟩
            · show sgn tx L s.p - 97 = nI (iN (zq1 tx L s.c).1)
              rw [ecv, iN_nI (by omega), ← ecv, z1a]
            · show z = nI (iN (zq3 tx L s.c).1)
              rw [ez, h17, iN_nI (by omega)]
            · show z = nI (iN (zq3 tx L s.c).1)
              rw [ez, h17, iN_nI (by omega)]
            · have g : 4 ≤ kk' := g
              omega
            · have g : 5 ≤ kk' := g
              omega
          · obtain ⟨n1, n2, z9, rfl, n3⟩ := q94
            refine z_ireturn dX10_columnHere_97 rfl rfl ⟨Nat.le_refl _, Nat.le_refl _⟩ ?_
            refine ⟨rfl, _, rfl, m65.ps.tr n1, by rw [ep]; exact n2, z9, rfl, fun e => ?_⟩
            rw [ep] at e ⊢
            exact n3 e
        first
          | exact hnode 1 (by decide) ep
          | exact hnode 2 (by decide) ep
          | skip
      · have e4 : i = 4 := by
          rcases hik with ⟨e, -⟩ | ⟨e, -⟩ | ⟨e, -⟩
          · exact e
          · subst e; rw [hw] at c81; exact absurd c81 (by decide)
          · exact absurd e e6
        have hz3 : (zq2 tx L s.c).1 = 1 := by rw [z2a, i4 e4]; rfl
        have ep := pQ_1 hz3
        refine z_iconst 1 dX10_columnHere_84 rfl ?_
        refine z_goto 89 dX10_columnHere_85 (by decide) ?_
        have hnode : ∀ kk' : Nat, kk' ≤ 3 → pQ tx L s = psN (kk', iN (zq1 tx L s.c).1, iN (zq3 tx L s.c).1, iN (zq3 tx L s.c).1, 0, 0) (psC (zq3 tx L s.c).2 s) → zW G m_Mo_columnHere (zRm 5 0 0) (zFm G (zP sh sz (qPost m L tx k C S (pQ tx L s))) 0 0) 0 0 89 [some (.ref m), some (.int (sgn tx L s.p - 97)), some (.int (wV tx L (qA tx L s).1)), some (.int z)] [.int (nI kk'), .ref m] (zhp sh S65) sz := by
          intro kk' hk3 ep
          have hq3 : (zq3 tx L s.c).2.2 = -1 → (zq3 tx L s.c).1 = z ∧ ∃ vv, vv < 16 ∧ z = nI vv := fun e => by
            have e1 := zq3_ok2 e
            have eB : (qB tx L s).2 = -1 := (cVal_k (tx := tx) (L := L) (qB tx L s)).back e
            have ez := v3 eB
            obtain ⟨vv, h16, h17⟩ := zq3_ok (tx := tx) (L := L) (s := s.c) (show s.p ≤ L by omega) hL e
            exact ⟨ez.symm, vv, h16, ez.trans h17⟩
          refine z_iload_n dX10_columnHere_89 rfl ?_
          refine z_iload_n dX10_columnHere_90 rfl ?_
          refine z_iload_n dX10_columnHere_91 rfl ?_
          refine z_iconst 0 dX10_columnHere_92 rfl ?_
          refine z_iconst 0 dX10_columnHere_93 rfl ?_
          refine s_callV l_Mo_127 (C_Mo_nodeP (C := C) (n := s.n) (nd := s.nd) (x := (kk', iN (zq1 tx L s.c).1, iN (zq3 tx L s.c).1, iN (zq3 tx L s.c).1, 0, 0)) hM hk v2 (fun e => ?_) (fun _ => by omega) hC2) m0 dX10_columnHere_94 rfl rfl (Nat.le_of_ble_eq_true rfl) ⟨⟨by decide, by decide⟩, by decide, by decide⟩ (fun r94 S94 q94 => ?_)
          · have ok := okq (by rw [ep]; exact e)
            rw [ep] at ok
            have ok2 : s.p + 2 * (s.n + 1) ≤ (zq3 tx L s.c).2.1 + 2 * s.n := ok.2
            obtain ⟨ez, vv, h16, h17⟩ := hq3 e
            refine ⟨hcn, by omega, m65.nd hnd, by show 2 * (s.n + 1) ≤ (zq3 tx L s.c).2.1; omega, rfl, ?_, ?_, ?_, fun g => ?_, fun g => ?_⟩
            · show sgn tx L s.p - 97 = nI (iN (zq1 tx L s.c).1)
              rw [ecv, iN_nI (by omega), ← ecv, z1a]
            · show z = nI (iN (zq3 tx L s.c).1)
              rw [ez, h17, iN_nI (by omega)]
            · show z = nI (iN (zq3 tx L s.c).1)
              rw [ez, h17, iN_nI (by omega)]
            · have g : 4 ≤ kk' := g
              omega
            · have g : 5 ≤ kk' := g
              omega
          · obtain ⟨n1, n2, z9, rfl, n3⟩ := q94
            refine z_ireturn dX10_columnHere_97 rfl rfl ⟨Nat.le_refl _, Nat.le_refl _⟩ ?_
            refine ⟨rfl, _, rfl, m65.ps.tr n1, by rw [ep]; exact n2, z9, rfl, fun e => ?_⟩
            rw [ep] at e ⊢
            exact n3 e
        first
          | exact hnode 1 (by decide) ep
          | exact hnode 2 (by decide) ep
          | skip
  refine z_aload_n dX10_columnHere_0 rfl ?_
  refine z_dup dX10_columnHere_1 rfl ?_
  refine s_geti f_Mo_92 dX10_columnHere_2 (by assumption) rfl ?_
  rw [h19, hqs]
  refine z_iconst 1 dX10_columnHere_5 rfl ?_
  refine z_iadd dX10_columnHere_6 ?_
  rw [nI_1]
  refine s_puti f_Mo_92 dX10_columnHere_7 (by assumption) rfl ⟨rfl, rfl⟩ ?_
  refine z_aload_n dX10_columnHere_10 rfl ?_
  refine z_bipush 32 dX10_columnHere_11 (by decide) ?_
  refine n_callV0 l_Mo_117 (C_Mo_must hM hk1 hL (by decide)) m0 dX10_columnHere_13 rfl rfl (Nat.le_of_ble_eq_true rfl) ⟨⟨by decide, by decide⟩, by decide, by decide⟩ (fun S13 q13 => ?_)
  rw [eA] at q13
  have m13 := (mS.set (Or.inl rfl)).tr q13.1
  obtain ⟨y13, ytx, y4, y22, y5, y20, y21, q1, y19, yq, yqs⟩ := id q13.2
  refine z_aload_n dX10_columnHere_16 rfl ?_
  refine s_geti f_Mo_89 dX10_columnHere_17 (by assumption) rfl ?_
  refine z_if_lt 25 dX10_columnHere_20 (by decide) (fun c20 => ?_) (fun c20 => ?_)
  · rw [y20] at c20
    have hm := (okF_neg y5).mp c20
    have yqs := yqs hm
    refine z_aload_n dX10_columnHere_25 rfl ?_
    refine s_callV1 l_Mo_120 (C_Mo_word (p := (qA tx L s).1) hM y13 ytx hL (by rw [y19, yqs]) (by omega)) m0 dX10_columnHere_26 rfl rfl (Nat.le_of_ble_eq_true rfl) ⟨⟨by decide, by decide⟩, by decide, by decide⟩ ?_
    refine z_istore_n (lv' := [_, _, _, _]) dX10_columnHere_29 (by decide) rfl ?_
    refine z_iload_n dX10_columnHere_30 rfl ?_
    refine z_sipush 307 dX10_columnHere_31 (by decide) ?_
    refine z_icmp_eq 50 dX10_columnHere_34 (by decide) (fun c34 => ?_) (fun c34 => ?_)
    · have hW4 := (wv_is (tx := tx) (L := L) (p := (qA tx L s).1) (i := 4) (by decide)).mp c34
      first
        | exact k50 4 1 S13 m13 q13.2 hm (Or.inl ⟨rfl, rfl⟩) hW4 (if_pos hW4) _
        | exact k50 5 2 S13 m13 q13.2 hm (Or.inr (Or.inl ⟨rfl, rfl⟩)) hW5 ((if_neg hN4).trans (if_pos hW5)) _
        | exact k50 6 3 S13 m13 q13.2 hm (Or.inr (Or.inr ⟨rfl, rfl⟩)) hW6 ((if_neg hN4).trans ((if_neg hN5).trans (if_pos hW6))) _
        | skip
    · have hN4 : ¬ isW tx L (qA tx L s).1 4 = true := fun e => c34 ((wv_is (i := 4) (by decide)).mpr e)
      refine z_iload_n dX10_columnHere_37 rfl ?_
      refine z_ldc (own := "") (2273783) v_Mo_123 dX10_columnHere_38 ?_
      refine z_icmp_eq 50 dX10_columnHere_40 (by decide) (fun c40 => ?_) (fun c40 => ?_)
      · have hW5 := (wv_is (tx := tx) (L := L) (p := (qA tx L s).1) (i := 5) (by decide)).mp c40
        first
          | exact k50 4 1 S13 m13 q13.2 hm (Or.inl ⟨rfl, rfl⟩) hW4 (if_pos hW4) _
          | exact k50 5 2 S13 m13 q13.2 hm (Or.inr (Or.inl ⟨rfl, rfl⟩)) hW5 ((if_neg hN4).trans (if_pos hW5)) _
          | exact k50 6 3 S13 m13 q13.2 hm (Or.inr (Or.inr ⟨rfl, rfl⟩)) hW6 ((if_neg hN4).trans ((if_neg hN5).trans (if_pos hW6))) _
          | skip
      · have hN5 : ¬ isW tx L (qA tx L s).1 5 = true := fun e => c40 ((wv_is (i := 5) (by decide)).mpr e)
        refine z_iload_n dX10_columnHere_43 rfl ?_
        refine z_sipush 302 dX10_columnHere_44 (by decide) ?_
        refine z_icmp_ne 124 dX10_columnHere_47 (by decide) (fun c47 => ?_) (fun c47 => ?_)
        · have hN6 : ¬ isW tx L (qA tx L s).1 6 = true := fun e => c47 ((wv_is (i := 6) (by decide)).mpr e)
          refine z_aload_n dX10_columnHere_124 rfl ?_
          refine z_aload_n dX10_columnHere_125 rfl ?_
          refine s_geti f_Mo_92 dX10_columnHere_126 (by assumption) rfl ?_
          rw [y19, yqs]
          refine s_callV0 l_Mo_99 (C_Mo_wrong hM q13.2) m0 dX10_columnHere_129 rfl rfl (Nat.le_of_ble_eq_true rfl) ⟨⟨by decide, by decide⟩, by decide, by decide⟩ ?_
          refine z_iconst 0 dX10_columnHere_132 rfl ?_
          refine z_ireturn dX10_columnHere_133 rfl rfl ⟨Nat.le_refl _, Nat.le_refl _⟩ ?_
          have z2 : zq2 tx L s.c = (-1, (qA tx L s).1, bl (qA tx L s).2 (nI (qA tx L s).1)) := (if_neg hN4).trans ((if_neg hN5).trans (if_neg hN6))
          have hne : (zq2 tx L s.c).2.2 ≠ -1 := by rw [z2]; exact bl_n (by omega)
          have e := pQ_z2 hne
          have hw := q13.2.wr (y := nI (qA tx L s).1) (nI_pos' (by omega))
          have hne2 : bl (qA tx L s).2 (nI (qA tx L s).1) ≠ -1 := bl_n (by omega)
          have e2 : (pQ tx L s).f = bl (qA tx L s).2 (nI (qA tx L s).1) := e.trans (by rw [z2])
          exact ⟨rfl, _, rfl, (m13.tr (mS.set (Or.inr (Or.inl rfl)))).ps, ⟨c, hw.any hne2 e2, fun g => absurd (e2.symm.trans g) hne2, fun _ => by omega⟩, 0, rfl, fun g => absurd (e2.symm.trans g) hne2⟩
        · have hW6 := (wv_is (tx := tx) (L := L) (p := (qA tx L s).1) (i := 6) (by decide)).mp c47
          first
            | exact k50 4 1 S13 m13 q13.2 hm (Or.inl ⟨rfl, rfl⟩) hW4 (if_pos hW4) _
            | exact k50 5 2 S13 m13 q13.2 hm (Or.inr (Or.inl ⟨rfl, rfl⟩)) hW5 ((if_neg hN4).trans (if_pos hW5)) _
            | exact k50 6 3 S13 m13 q13.2 hm (Or.inr (Or.inr ⟨rfl, rfl⟩)) hW6 ((if_neg hN4).trans ((if_neg hN5).trans (if_pos hW6))) _
            | skip
  · rw [y20] at c20
    have hne : (qA tx L s).2 ≠ -1 := fun e => c20 ((okF_neg y5).mpr e)
    refine z_iconst 0 dX10_columnHere_23 rfl ?_
    refine z_ireturn dX10_columnHere_24 rfl rfl ⟨Nat.le_refl _, Nat.le_refl _⟩ ?_
    have e := pQ_fA hne
    refine ⟨rfl, _, rfl, m13.ps, ⟨c, q13.2.any hne e, fun g => absurd (e.symm.trans g) hne, fun _ => by omega⟩, 0, rfl, fun g => absurd (e.symm.trans g) hne⟩
end MOQ

