/-! ===== the model: its cells; rows, marks, runs ===== -/
abbrev fTm (m : Nat) : Nat → Option Nat := fun t => if t < 6 then some (m + 16 + t) else none
def tMo (sh : Nat → Option zSh) (m : Nat) : Prop :=
  sh m = some (.inl (10, [some (some (m + 1)), some (some (m + 2)), some (some (m + 3)), none, none, some (some (m + 4)), some (some (m + 5)), some (some (m + 6)), some (some (m + 7)), some (some (m + 8)), some (some (m + 9)), some (some (m + 10)), some (some (m + 11)), none, some (some (m + 12)), some (some (m + 13)), some (some (m + 14)), some (some (m + 15)), some (some (m + 22)), none, none, none, none])) ∧
  sh (m + 1) = some (.inr (0, 543, fNo)) ∧ sh (m + 2) = some (.inr (0, 543, fNo)) ∧ sh (m + 3) = some (.inr (0, 543, fNo)) ∧ sh (m + 4) = some (.inr (0, 8, fNo)) ∧
  sh (m + 5) = some (.inr (0, 480, fNo)) ∧ sh (m + 6) = some (.inr (0, 480, fNo)) ∧ sh (m + 7) = some (.inr (0, 480, fNo)) ∧ sh (m + 8) = some (.inr (0, 480, fNo)) ∧ sh (m + 9) = some (.inr (0, 480, fNo)) ∧ sh (m + 10) = some (.inr (0, 480, fNo)) ∧
  sh (m + 11) = some (.inr (0, 100, fNo)) ∧ sh (m + 12) = some (.inr (0, 16, fNo)) ∧ sh (m + 13) = some (.inr (0, 6, fNo)) ∧ sh (m + 14) = some (.inr (0, 6, fNo)) ∧ sh (m + 15) = some (.inr (6, 6, fTm m)) ∧ (∀ t, t < 6 → sh (m + 16 + t) = some (.inr (1, 60, fNo))) ∧ sh (m + 22) = some (.inr (1, 60, fNo))
/-- the nodes of one query, from b on -/
def rNd (S : zSt) (m b N : Nat) (nd : Nd) : Prop := ∀ i, i < N → za S (m + 5) (b + i) = nI (nS nd i) ∧ za S (m + 6) (b + i) = nI (nC nd i) ∧ za S (m + 7) (b + i) = nI (nL nd i) ∧ za S (m + 8) (b + i) = nI (nH nd i) ∧ (4 ≤ nS nd i → za S (m + 9) (b + i) = nI (b + nO nd i)) ∧ (5 ≤ nS nd i → za S (m + 10) (b + i) = nI (b + nT nd i))
def rMo (S : zSt) (m : Nat) (w : Wd) : Prop :=
  (∀ i, i < 543 → za S (m + 1) i = wg w i) ∧ zi S m 3 = zo (wH w) ∧ (wH w = true → ∀ i, i < 543 → za S (m + 3) i = wg2 w i) ∧ (zi S m 4 = nI (wq w) ∧ ∀ k, k < wq w → za S (m + 4) k = nI (60 * k + (wN w k - 1)) ∧ rNd S m (60 * k) (wN w k) (wnd w k)) ∧
  (zi S m 13 = nI (wL w) ∧ ∀ i, i < wL w → za S (m + 11) i = wtx w i) ∧ ∀ t, t < 6 → za S (m + 13) t = wts w t ∧ za S (m + 14) t = nI (wtz w t) ∧ ∀ i, i < 60 → zj S (m + 16 + t) i = wti w t i
def inM (m : Nat) : Nat → Prop := fun b => m ≤ b ∧ b < m + 23
/-- the rows as the model has them -/
def gRows (S : zSt) (m n : Nat) (v : Nat → Nat → Nat) : Prop := za S (m + 1) 480 = nI n ∧ ∀ j, j < n → ∀ c, c < 4 → za S (m + 1) (4 * j + c) = nI (v j c)
theorem rNd.fr {S S' : zSt} {m b N : Nat} {nd : Nd} {P : Nat → Prop} (h : rNd S m b N nd) (hf : frS S P S') (hP : ∀ b, m + 5 ≤ b → b < m + 11 → ¬ P b) : rNd S' m b N nd := fun i hi => by
  obtain ⟨h1, h2, h3, h4, h5, h6⟩ := h i hi
  have e : ∀ k, 5 ≤ k → k < 11 → za S' (m + k) (b + i) = za S (m + k) (b + i) := fun k k1 k2 => congrFun (hf _ (hP _ (by omega) (by omega))).2.2.1 _
  exact ⟨(e 5 (by decide) (by decide)).trans h1, (e 6 (by decide) (by decide)).trans h2, (e 7 (by decide) (by decide)).trans h3, (e 8 (by decide) (by decide)).trans h4, fun q => (e 9 (by decide) (by decide)).trans (h5 q), fun q => (e 10 (by decide) (by decide)).trans (h6 q)⟩
theorem gRows.fr {S S' : zSt} {m n : Nat} {v : Nat → Nat → Nat} {P : Nat → Prop} (h : gRows S m n v) (hf : frS S P S') (hP : ¬ P (m + 1)) : gRows S' m n v :=
  ⟨(congrFun (hf _ hP).2.2.1 _).trans h.1, fun j hj c hc => (congrFun (hf _ hP).2.2.1 _).trans (h.2 j hj c hc)⟩
theorem rMo.gr {S : zSt} {m : Nat} {w : Wd} (h : rMo S m w) (hW : wOK w) : gRows S m (aN (wA w)) (aV (wA w)) := by
  obtain ⟨⟨b1, -⟩, ⟨e1, -⟩, eV, -⟩ := hW.1
  exact ⟨(h.1 480 (by decide)).trans e1, fun j hj c hc => (h.1 _ (by omega)).trans (eV j hj c hc).1⟩
theorem rMo.now {S S' : zSt} {m : Nat} {w : Wd} {P : Nat → Prop} {A : Ab} {ga : Nat → Int32} (h : rMo S m w) (hf : frS S P S') (hP : ∀ b, m ≤ b → b < m + 23 → b ≠ m + 1 → b ≠ m + 2 → b ≠ m + 12 → b ≠ m + 22 → ¬ P b) (hg : ∀ i, i < 543 → za S' (m + 1) i = ga i) : rMo S' m ((A, ga), w.2) := by
  obtain ⟨h1, h2, h3, ⟨h4, h5⟩, ⟨h6, h7⟩, h8⟩ := h
  have o : ∀ b, m ≤ b → b < m + 23 → b ≠ m + 1 → b ≠ m + 2 → b ≠ m + 12 → b ≠ m + 22 → zag S S' b := fun b p1 p2 p3 p4 p5 p6 => hf b (hP b p1 p2 p3 p4 p5 p6)
  exact ⟨hg, (congrFun (o m (by omega) (by omega) (by omega) (by omega) (by omega) (by omega)).1 3).trans h2, fun q i hi => (congrFun (o (m + 3) (by omega) (by omega) (by omega) (by omega) (by omega) (by omega)).2.2.1 i).trans (h3 q i hi), ⟨(congrFun (o m (by omega) (by omega) (by omega) (by omega) (by omega) (by omega)).1 4).trans h4, fun k hk => ⟨(congrFun (o (m + 4) (by omega) (by omega) (by omega) (by omega) (by omega) (by omega)).2.2.1 k).trans (h5 k hk).1, (h5 k hk).2.fr hf (fun b p1 p2 => hP b (by omega) (by omega) (by omega) (by omega) (by omega) (by omega))⟩⟩, ⟨(congrFun (o m (by omega) (by omega) (by omega) (by omega) (by omega) (by omega)).1 13).trans h6, fun i hi => (congrFun (o (m + 11) (by omega) (by omega) (by omega) (by omega) (by omega) (by omega)).2.2.1 i).trans (h7 i hi)⟩, fun t ht => ⟨(congrFun (o (m + 13) (by omega) (by omega) (by omega) (by omega) (by omega) (by omega)).2.2.1 t).trans (h8 t ht).1, (congrFun (o (m + 14) (by omega) (by omega) (by omega) (by omega) (by omega) (by omega)).2.2.1 t).trans (h8 t ht).2.1, fun i hi => (congrFun (o (m + 16 + t) (by omega) (by omega) (by omega) (by omega) (by omega) (by omega)).2.2.2 i).trans ((h8 t ht).2.2 i hi)⟩⟩
theorem rMo.fr {S S' : zSt} {m : Nat} {w : Wd} {P : Nat → Prop} (h : rMo S m w) (hf : frS S P S') (hP : ∀ b, m ≤ b → b < m + 23 → b ≠ m + 2 → b ≠ m + 12 → b ≠ m + 22 → ¬ P b) : rMo S' m w :=
  h.now hf (fun b h1 h2 h3 h4 h5 h6 => hP b h1 h2 h4 h5 h6) (fun i hi => (congrFun (hf _ (hP _ (by omega) (by omega) (by omega) (by omega) (by omega))).2.2.1 i).trans (h.1 i hi))
theorem za_gset {S : zSt} {a k : Nat} {v : Int32} {ga : Nat → Int32} (h : ∀ i, i < 543 → za S a i = ga i) : ∀ i, i < 543 → za (zsa S a k v) a i = gset ga k v i := fun i hi => by
  by_cases e : i = k
  · subst e; rw [gset_s]; exact zup_same
  · rw [gset_n e]; exact (zup_ne (fun q => e q.2)).trans (h i hi)
theorem frM2 {S : zSt} {a k k2 : Nat} {u u2 : Int32} : frS S (fun b => b = a) (zsa (zsa S a k u) a k2 u2) := (frS.seta (P := fun b => b = a) rfl).trans (frS.seta (P := fun b => b = a) rfl)
theorem in_rg {y : Int32} {n : Nat} (hn : n < 2 ^ 31) : decide (0 ≤ y ∧ y ≤ nI n - 1) = rg y n := by
  unfold rg
  refine decide_eq_decide.mpr ⟨fun h => ?_, fun h => ?_⟩
  · obtain ⟨j, hj, rfl⟩ := nI_of (Int32.not_lt.mpr h.1)
    cases n with
    | zero =>
      have e : nI 0 - 1 = -1 := by decide
      have h2 := h.2
      rw [e] at h2
      exact absurd (Int32.le_trans h.1 h2) (by decide)
    | succ n =>
      have h2 := h.2
      rw [nI_pred] at h2
      exact ⟨h.1, nI_lt (by have := i_le hj (by omega) h2; omega) hn⟩
  · obtain ⟨h1, rfl' ⟩ := clampLt hn h
    cases n with
    | zero => omega
    | succ n =>
      rw [rfl', nI_pred]
      exact ⟨nI_pos' (by omega), nI_le (by omega) (by omega)⟩
theorem nI4 (j c : Nat) : (4 : Int32) * nI j + nI c = nI (4 * j + c) := by rw [show (4 : Int32) = nI 4 from rfl, nI_mulN, nI_add]
section MOA
variable {G : zG} {sh : Nat → Option zSh} {S : zSt} {m n c k j a b : Nat} {w : Wd} {v : Nat → Nat → Nat} {P : Option Value → zSt → Prop}
theorem C_Mo_in {x y z : Int32} : zD G m_Mo_in 1 sh [.int x, .int y, .int z] S (some (.int (zo (decide (y ≤ x ∧ x ≤ z))))) S := by
  refine s_methD 0 ⟨p_Mo, rfl, Nat.le_of_ble_eq_true rfl⟩ rfl (fun sz => ?_)
  refine z_iload_n dX10_in_0 rfl ?_
  refine z_iload_n dX10_in_1 rfl ?_
  refine z_icmp_lt 14 dX10_in_2 (by decide) (fun c2 => ?_) (fun c2 => ?_)
  · rw [decide_eq_false (show ¬ (y ≤ x ∧ x ≤ z) from fun q => Int32.not_lt.mpr q.1 c2)]
    refine z_iconst 0 dX10_in_14 rfl ?_
    refine z_ireturn dX10_in_15 rfl rfl ⟨Nat.le_refl _, Nat.le_refl _⟩ ?_
    exact ⟨rfl, rfl, rfl⟩
  · refine z_iload_n dX10_in_5 rfl ?_
    refine z_iload_n dX10_in_6 rfl ?_
    refine z_icmp_gt 14 dX10_in_7 (by decide) (fun c7 => ?_) (fun c7 => ?_)
    · rw [decide_eq_false (show ¬ (y ≤ x ∧ x ≤ z) from fun q => Int32.not_lt.mpr q.2 c7)]
      refine z_iconst 0 dX10_in_14 rfl ?_
      refine z_ireturn dX10_in_15 rfl rfl ⟨Nat.le_refl _, Nat.le_refl _⟩ ?_
      exact ⟨rfl, rfl, rfl⟩
    · rw [decide_eq_true (show (y ≤ x ∧ x ≤ z) from ⟨Int32.not_lt.mp c2, Int32.not_lt.mp c7⟩)]
      refine z_iconst 1 dX10_in_10 rfl ?_
      refine z_goto 15 dX10_in_11 (by decide) ?_
      refine z_ireturn dX10_in_15 rfl rfl ⟨Nat.le_refl _, Nat.le_refl _⟩ ?_
      exact ⟨rfl, rfl, rfl⟩
theorem C_Mo_in0 {x z : Int32} (hz : z = nI n - 1) (hn : n < 2 ^ 31) : zD G m_Mo_in 1 sh [.int x, .int 0, .int z] S (some (.int (zo (rg x n)))) S := by
  rw [← in_rg hn, ← hz]
  exact C_Mo_in
theorem L_copy {F : zFin} {sz : Nat} {S0 : zSt} (ha : sh a = some (.inr (0, 543, fNo))) (hb : sh b = some (.inr (0, 543, fNo))) (hab : a ≠ b)
    (kk : ∀ S', frS S0 (fun z => z = b) S' → (∀ i, i < 543 → za S' b i = za S0 a i) → zW G m_Mo_copy (zRm (1) 0 0) F 0 0 21 [some (.ref a), some (.ref b), some (.int (nI 543))] [] (zhp sh S') sz) :
    ∀ d i S, 543 - i = d → i ≤ 543 → frS S0 (fun z => z = b) S → (∀ j, j < i → za S b j = za S0 a j) → zW G m_Mo_copy (zRm (1) 0 0) F 0 0 2 [some (.ref a), some (.ref b), some (.int (nI i))] [] (zhp sh S) sz := by
  intro d
  induction d with
  | zero =>
    intro i S h1 h2 h3 h4
    have hi : i = 543 := by omega
    subst hi
    refine z_iload_n dX10_copy_2 rfl ?_
    refine z_sipush 543 dX10_copy_3 (by decide) ?_
    refine z_icmp_ge 21 dX10_copy_6 (by decide) (fun c6 => ?_) (fun c6 => ?_)
    · exact kk S h3 h4
    · exact absurd (nI_le (a := 543) (b := 543) (Nat.le_refl _) (by decide)) c6
  | succ d ih =>
    intro i S h1 h2 h3 h4
    refine z_iload_n dX10_copy_2 rfl ?_
    refine z_sipush 543 dX10_copy_3 (by decide) ?_
    refine z_icmp_ge 21 dX10_copy_6 (by decide) (fun c6 => ?_) (fun c6 => ?_)
    · exact absurd c6 (nI_ge (b := 543) (by omega) (by decide))
    · refine z_aload_n dX10_copy_9 rfl ?_
      refine z_iload_n dX10_copy_10 rfl ?_
      refine z_aload_n dX10_copy_11 rfl ?_
      refine z_iload_n dX10_copy_12 rfl ?_
      refine s_iald dX10_copy_13 ha (vp_in_nI (by omega) (by decide)) ?_
      refine s_iast dX10_copy_14 hb (vp_in_nI (by omega) (by decide)) ?_
      refine z_iinc (lv' := [_, _, _]) 1 dX10_copy_15 rfl (by decide) rfl rfl ?_
      refine z_goto 2 dX10_copy_18 (by decide) ?_
      rw [nI_1, nI_clamp (by omega)]
      refine ih (i + 1) _ (by omega) (by omega) (h3.trans (frS.seta rfl)) (fun j hj => ?_)
      by_cases e : j = i
      · subst e
        exact zup_same.trans (congrFun (h3 a (fun q => hab q)).2.2.1 _)
      · exact (zup_ne (fun q => e q.2)).trans (h4 j (by omega))
theorem C_Mo_copy (ha : sh a = some (.inr (0, 543, fNo))) (hb : sh b = some (.inr (0, 543, fNo))) (hab : a ≠ b) : zN G m_Mo_copy 1 sh [.ref a, .ref b] S none (fun S' => frS S (fun z => z = b) S' ∧ ∀ i, i < 543 → za S' b i = za S a i) := by
  refine s_meth 1 ⟨p_Mo, rfl, Nat.le_of_ble_eq_true rfl⟩ rfl (fun sz => ?_)
  refine z_iconst 0 dX10_copy_0 rfl ?_
  refine z_istore_n (lv' := [_, _, _]) dX10_copy_1 (by decide) rfl ?_
  refine L_copy ha hb hab (fun S' h1 h2 => ?_) 543 0 S rfl (Nat.zero_le _) frS.rf (fun j hj => absurd hj (Nat.not_lt_zero _))
  refine z_return dX10_copy_21 rfl ⟨Nat.le_refl _, Nat.le_refl _⟩ ⟨rfl, _, rfl, rfl, h1, h2⟩
theorem C_Mo_isRow {y : Int32} (hM : tMo sh m) (hg : za S (m + 1) 480 = nI n) (hn : n < 2 ^ 31) : zD G m_Mo_isRow 2 sh [.ref m, .int y] S (some (.int (zo (rg y n)))) S := by
  obtain ⟨m0, a1, a2, a3, a4, a5, a6, a7, a8, a9, a10, a11, a12, a13, a14, a15, a16, a22⟩ := id hM
  refine s_methD 0 ⟨p_Mo, rfl, Nat.le_of_ble_eq_true rfl⟩ rfl (fun sz => ?_)
  refine z_iload_n dX10_isRow_0 rfl ?_
  refine z_iconst 0 dX10_isRow_1 rfl ?_
  refine z_aload_n dX10_isRow_2 rfl ?_
  refine s_getr f_Mo_11 dX10_isRow_3 (by assumption) rfl ?_
  refine z_sipush 480 dX10_isRow_6 (by decide) ?_
  refine s_iald dX10_isRow_9 (by assumption) (by first | assumption | exact vp_in_nI (by omega) (by omega) | (unfold vp_in; decide)) ?_
  rw [show (480 : Int32).toNatClampNeg = 480 from rfl, hg]
  refine z_iconst 1 dX10_isRow_10 rfl ?_
  refine z_isub dX10_isRow_11 ?_
  refine s_callS1 l_Mo_63 (C_Mo_in0 (n := n) rfl hn) dX10_isRow_12 rfl rfl (Nat.le_of_ble_eq_true rfl) ⟨⟨by decide, by decide⟩, by decide, by decide⟩ ?_
  refine z_ireturn dX10_isRow_15 rfl zo_nar ⟨Nat.le_refl _, Nat.le_refl _⟩ ?_
  exact ⟨rfl, rfl, rfl⟩
def cmS (S : zSt) (m n : Nat) (p q r s : Int32) : zSt := zsa (zsa (zsa (zsa (zsa S (m + 1) (4 * n) p) (m + 1) (4 * n + 1) q) (m + 1) (4 * n + 2) r) (m + 1) (4 * n + 3) s) (m + 1) 480 (nI (n + 1))
theorem cmS_fr {p q r s : Int32} {P : Nat → Prop} (h : P (m + 1)) : frS S P (cmS S m n p q r s) := ((((frS.seta h).trans (frS.seta h)).trans (frS.seta h)).trans (frS.seta h)).trans (frS.seta h)
theorem cmS_ga {p q r s : Int32} {ga : Nat → Int32} (h : ∀ i, i < 543 → za S (m + 1) i = ga i) : ∀ i, i < 543 → za (cmS S m n p q r s) (m + 1) i = gset (gset (gset (gset (gset ga (4 * n) p) (4 * n + 1) q) (4 * n + 2) r) (4 * n + 3) s) 480 (nI (n + 1)) i := za_gset (za_gset (za_gset (za_gset (za_gset h))))
theorem inM1 : inM m (m + 1) := ⟨by omega, by omega⟩
theorem C_Mo_comes {p q r s : Int32} (hM : tMo sh m) (hg : za S (m + 1) 480 = nI n) (hn : n < 120) : zD G m_Mo_comes 1 sh [.ref m, .int p, .int q, .int r, .int s] S (some (.int (nI n))) (cmS S m n p q r s) := by
  obtain ⟨m0, a1, a2, a3, a4, a5, a6, a7, a8, a9, a10, a11, a12, a13, a14, a15, a16, a22⟩ := id hM
  refine s_methD 1 ⟨p_Mo, rfl, Nat.le_of_ble_eq_true rfl⟩ rfl (fun sz => ?_)
  refine z_iconst 4 dX10_comes_0 rfl ?_
  refine z_aload_n dX10_comes_1 rfl ?_
  refine s_getr f_Mo_11 dX10_comes_2 (by assumption) rfl ?_
  refine z_sipush 480 dX10_comes_5 (by decide) ?_
  refine s_iald dX10_comes_8 (by assumption) (by first | assumption | exact vp_in_nI (by omega) (by omega) | (unfold vp_in; decide)) ?_
  refine z_imul dX10_comes_9 ?_
  rw [show (480 : Int32).toNatClampNeg = 480 from rfl, hg, show (4 : Int32) = nI 4 from rfl, nI_mulN]
  refine z_istore (lv' := [_, _, _, _, _, _]) dX10_comes_10 (by decide) rfl ?_
  refine z_aload_n dX10_comes_12 rfl ?_
  refine s_getr f_Mo_11 dX10_comes_13 (by assumption) rfl ?_
  refine z_iload dX10_comes_16 rfl ?_
  refine z_iload_n dX10_comes_18 rfl ?_
  refine s_iast dX10_comes_19 a1 (vp_in_nI (by omega) (by decide)) ?_
  rw [nI_clamp (by omega)]
  refine z_aload_n dX10_comes_20 rfl ?_
  refine s_getr f_Mo_11 dX10_comes_21 (by assumption) rfl ?_
  refine z_iload dX10_comes_24 rfl ?_
  refine z_iconst 1 dX10_comes_26 rfl ?_
  refine z_iadd dX10_comes_27 ?_
  refine z_iload_n dX10_comes_28 rfl ?_
  rw [show (1 : Int32) = nI 1 from rfl, nI_add]
  refine s_iast dX10_comes_29 a1 (vp_in_nI (by omega) (by decide)) ?_
  rw [nI_clamp (by omega)]
  refine z_aload_n dX10_comes_30 rfl ?_
  refine s_getr f_Mo_11 dX10_comes_31 (by assumption) rfl ?_
  refine z_iload dX10_comes_34 rfl ?_
  refine z_iconst 2 dX10_comes_36 rfl ?_
  refine z_iadd dX10_comes_37 ?_
  refine z_iload_n dX10_comes_38 rfl ?_
  rw [show (2 : Int32) = nI 2 from rfl, nI_add]
  refine s_iast dX10_comes_39 a1 (vp_in_nI (by omega) (by decide)) ?_
  rw [nI_clamp (by omega)]
  refine z_aload_n dX10_comes_40 rfl ?_
  refine s_getr f_Mo_11 dX10_comes_41 (by assumption) rfl ?_
  refine z_iload dX10_comes_44 rfl ?_
  refine z_iconst 3 dX10_comes_46 rfl ?_
  refine z_iadd dX10_comes_47 ?_
  refine z_iload dX10_comes_48 rfl ?_
  rw [show (3 : Int32) = nI 3 from rfl, nI_add]
  refine s_iast dX10_comes_50 a1 (vp_in_nI (by omega) (by decide)) ?_
  rw [nI_clamp (by omega)]
  refine z_aload_n dX10_comes_51 rfl ?_
  refine s_getr f_Mo_11 dX10_comes_52 (by assumption) rfl ?_
  refine z_sipush 480 dX10_comes_55 (by decide) ?_
  refine z_dup2 dX10_comes_58 rfl rfl ?_
  refine s_iald dX10_comes_59 (by assumption) (by first | assumption | exact vp_in_nI (by omega) (by omega) | (unfold vp_in; decide)) ?_
  rw [show (480 : Int32).toNatClampNeg = 480 from rfl, za_san (by omega), za_san (by omega), za_san (by omega), za_san (by omega), hg]
  refine z_dup_x2 dX10_comes_60 rfl rfl rfl ?_
  refine z_iconst 1 dX10_comes_61 rfl ?_
  refine z_iadd dX10_comes_62 ?_
  rw [nI_1]
  refine s_iast dX10_comes_63 (by assumption) (by first | assumption | exact vp_in_nI (by omega) (by omega) | (unfold vp_in; decide)) ?_
  refine z_ireturn dX10_comes_64 rfl rfl ⟨Nat.le_refl _, Nat.le_refl _⟩ ?_
  exact ⟨rfl, rfl, rfl⟩
theorem C_Mo_add {p q r s : Int32} (hM : tMo sh m) (hR : rMo S m w) (hW : wOK w) (h0 : ¬ (rg p 16 = true ∧ rg q 16 = true ∧ rg r 16 = true ∧ rg s 16 = true) → P (some (.int (-2))) S)
    (h1 : (rg p 16 = true ∧ rg q 16 = true ∧ rg r 16 = true ∧ rg s 16 = true) → 120 ≤ aN (wA w) → P (some (.int (-4))) S)
    (h2 : ∀ y S', (∀ i, i < 4 → y i < 16) → p = nI (y 0) → q = nI (y 1) → r = nI (y 2) → s = nI (y 3) → aN (wA w) < 120 → frS S (inM m) S' → rMo S' m ((aAdd (wA w) y, gAdd (wA w) (wg w) y), w.2) → P (some (.int (nI (aN (wA w))))) S') : zR G m_Mo_add 2 sh [.ref m, .int p, .int q, .int r, .int s] S P := by
  obtain ⟨m0, a1, a2, a3, a4, a5, a6, a7, a8, a9, a10, a11, a12, a13, a14, a15, a16, a22⟩ := id hM
  obtain ⟨k1, k2, k3, ⟨k4, kr⟩, ⟨kL, ktx⟩, kt⟩ := id hR
  obtain ⟨g0, gi, ⟨g2, g2q⟩, ⟨g3, g3x⟩, g4⟩ := id hW
  obtain ⟨⟨b1, b2, b3, b4, b5⟩, ⟨e1, e2, e3, e4, e5⟩, eV, eM, eMo, eS, eB⟩ := id g0
  have hv : ∀ j, j < aN (wA w) → ∀ c, c < 4 → aV (wA w) j c < 16 := fun j hj c hc => (eV j hj c hc).2
  have gr := hR.gr hW
  refine s_meth 0 ⟨p_Mo, rfl, Nat.le_of_ble_eq_true rfl⟩ rfl (fun sz => ?_)
  refine z_iload_n dX10_add_0 rfl ?_
  refine z_iconst 0 dX10_add_1 rfl ?_
  refine z_bipush 15 dX10_add_2 (by decide) ?_
  refine s_callS1 l_Mo_63 (C_Mo_in0 (n := 16) (by decide) (by decide)) dX10_add_4 rfl rfl (Nat.le_of_ble_eq_true rfl) ⟨⟨by decide, by decide⟩, by decide, by decide⟩ ?_
  refine z_if_eq 41 dX10_add_7 (by decide) (fun c7 => ?_) (fun c7 => ?_)
  · refine z_bipush (-2) dX10_add_41 (by decide) ?_
    refine z_ireturn dX10_add_43 rfl rfl ⟨Nat.le_refl _, Nat.le_refl _⟩ ?_
    first
      | exact ⟨rfl, _, rfl, h0 (fun q => zoT q.1 c7)⟩
      | exact ⟨rfl, _, rfl, h0 (fun q => zoT q.2.1 c17)⟩
      | exact ⟨rfl, _, rfl, h0 (fun q => zoT q.2.2.1 c27)⟩
      | exact ⟨rfl, _, rfl, h0 (fun q => zoT q.2.2.2 c38)⟩
      | skip
  · refine z_iload_n dX10_add_10 rfl ?_
    refine z_iconst 0 dX10_add_11 rfl ?_
    refine z_bipush 15 dX10_add_12 (by decide) ?_
    refine s_callS1 l_Mo_63 (C_Mo_in0 (n := 16) (by decide) (by decide)) dX10_add_14 rfl rfl (Nat.le_of_ble_eq_true rfl) ⟨⟨by decide, by decide⟩, by decide, by decide⟩ ?_
    refine z_if_eq 41 dX10_add_17 (by decide) (fun c17 => ?_) (fun c17 => ?_)
    · refine z_bipush (-2) dX10_add_41 (by decide) ?_
      refine z_ireturn dX10_add_43 rfl rfl ⟨Nat.le_refl _, Nat.le_refl _⟩ ?_
      first
        | exact ⟨rfl, _, rfl, h0 (fun q => zoT q.1 c7)⟩
        | exact ⟨rfl, _, rfl, h0 (fun q => zoT q.2.1 c17)⟩
        | exact ⟨rfl, _, rfl, h0 (fun q => zoT q.2.2.1 c27)⟩
        | exact ⟨rfl, _, rfl, h0 (fun q => zoT q.2.2.2 c38)⟩
        | skip
    · refine z_iload_n dX10_add_20 rfl ?_
      refine z_iconst 0 dX10_add_21 rfl ?_
      refine z_bipush 15 dX10_add_22 (by decide) ?_
      refine s_callS1 l_Mo_63 (C_Mo_in0 (n := 16) (by decide) (by decide)) dX10_add_24 rfl rfl (Nat.le_of_ble_eq_true rfl) ⟨⟨by decide, by decide⟩, by decide, by decide⟩ ?_
      refine z_if_eq 41 dX10_add_27 (by decide) (fun c27 => ?_) (fun c27 => ?_)
      · refine z_bipush (-2) dX10_add_41 (by decide) ?_
        refine z_ireturn dX10_add_43 rfl rfl ⟨Nat.le_refl _, Nat.le_refl _⟩ ?_
        first
          | exact ⟨rfl, _, rfl, h0 (fun q => zoT q.1 c7)⟩
          | exact ⟨rfl, _, rfl, h0 (fun q => zoT q.2.1 c17)⟩
          | exact ⟨rfl, _, rfl, h0 (fun q => zoT q.2.2.1 c27)⟩
          | exact ⟨rfl, _, rfl, h0 (fun q => zoT q.2.2.2 c38)⟩
          | skip
      · refine z_iload dX10_add_30 rfl ?_
        refine z_iconst 0 dX10_add_32 rfl ?_
        refine z_bipush 15 dX10_add_33 (by decide) ?_
        refine s_callS1 l_Mo_63 (C_Mo_in0 (n := 16) (by decide) (by decide)) dX10_add_35 rfl rfl (Nat.le_of_ble_eq_true rfl) ⟨⟨by decide, by decide⟩, by decide, by decide⟩ ?_
        refine z_if_ne 44 dX10_add_38 (by decide) (fun c38 => ?_) (fun c38 => ?_)
        · refine z_aload_n dX10_add_44 rfl ?_
          refine s_getr f_Mo_11 dX10_add_45 (by assumption) rfl ?_
          refine z_sipush 480 dX10_add_48 (by decide) ?_
          refine s_iald dX10_add_51 (by assumption) (by first | assumption | exact vp_in_nI (by omega) (by omega) | (unfold vp_in; decide)) ?_
          refine z_bipush 120 dX10_add_52 (by decide) ?_
          rw [show (480 : Int32).toNatClampNeg = 480 from rfl, gr.1]
          refine z_icmp_ne 62 dX10_add_54 (by decide) (fun c54 => ?_) (fun c54 => ?_)
          · have hn : ¬ aN (wA w) = 120 := fun q => c54 (by rw [q]; rfl)
            obtain ⟨ja, ha, rfl⟩ := rg_t (by decide) (zo_ne0.mp c7)
            obtain ⟨jb, hb, rfl⟩ := rg_t (by decide) (zo_ne0.mp c17)
            obtain ⟨jc, hc, rfl⟩ := rg_t (by decide) (zo_ne0.mp c27)
            obtain ⟨jd, hd, rfl⟩ := rg_t (by decide) (zo_ne0.mp c38)
            refine z_aload_n dX10_add_62 rfl ?_
            refine z_iload_n dX10_add_63 rfl ?_
            refine z_iload_n dX10_add_64 rfl ?_
            refine z_iload_n dX10_add_65 rfl ?_
            refine z_iload dX10_add_66 rfl ?_
            refine s_callV1 l_Mo_67 (C_Mo_comes hM gr.1 (by omega)) m0 dX10_add_68 rfl rfl (Nat.le_of_ble_eq_true rfl) ⟨⟨by decide, by decide⟩, by decide, by decide⟩ ?_
            refine z_ireturn dX10_add_71 rfl rfl ⟨Nat.le_refl _, Nat.le_refl _⟩ ?_
            first
              | exact ⟨rfl, _, rfl, h1 ⟨zo_ne0.mp c7, zo_ne0.mp c17, zo_ne0.mp c27, zo_ne0.mp c38⟩ (by omega)⟩
              | exact ⟨rfl, _, rfl, h2 (y4 ja jb jc jd) _ (y4_lt ha hb hc hd) rfl rfl rfl rfl (by omega) (cmS_fr inM1) (hR.now (P := fun b => b = m + 1) (cmS_fr rfl) (fun b p1 p2 p3 p4 p5 p6 => p3) (cmS_ga k1))⟩
              | skip
          · have hn : aN (wA w) = 120 := (nI_eq (b := 120) (by omega) (by decide)).mp c54
            refine z_bipush (-4) dX10_add_57 (by decide) ?_
            refine z_goto 71 dX10_add_59 (by decide) ?_
            refine z_ireturn dX10_add_71 rfl rfl ⟨Nat.le_refl _, Nat.le_refl _⟩ ?_
            first
              | exact ⟨rfl, _, rfl, h1 ⟨zo_ne0.mp c7, zo_ne0.mp c17, zo_ne0.mp c27, zo_ne0.mp c38⟩ (by omega)⟩
              | exact ⟨rfl, _, rfl, h2 (y4 ja jb jc jd) _ (y4_lt ha hb hc hd) rfl rfl rfl rfl (by omega) (cmS_fr inM1) (hR.now (P := fun b => b = m + 1) (cmS_fr rfl) (fun b p1 p2 p3 p4 p5 p6 => p3) (cmS_ga k1))⟩
              | skip
        · refine z_bipush (-2) dX10_add_41 (by decide) ?_
          refine z_ireturn dX10_add_43 rfl rfl ⟨Nat.le_refl _, Nat.le_refl _⟩ ?_
          first
            | exact ⟨rfl, _, rfl, h0 (fun q => zoT q.1 c7)⟩
            | exact ⟨rfl, _, rfl, h0 (fun q => zoT q.2.1 c17)⟩
            | exact ⟨rfl, _, rfl, h0 (fun q => zoT q.2.2.1 c27)⟩
            | exact ⟨rfl, _, rfl, h0 (fun q => zoT q.2.2.2 c38)⟩
            | skip
theorem C_Mo_at {p q : Int32} (hM : tMo sh m) (hR : rMo S m w) (hW : wOK w) (h0 : ¬ (rg p (aN (wA w)) = true ∧ rg q 4 = true) → P (some (.int (-1))) S)
    (h1 : ∀ j c, j < aN (wA w) → c < 4 → p = nI j → q = nI c → P (some (.int (nI (aV (wA w) j c)))) S) : zR G m_Mo_at 3 sh [.ref m, .int p, .int q] S P := by
  obtain ⟨m0, a1, a2, a3, a4, a5, a6, a7, a8, a9, a10, a11, a12, a13, a14, a15, a16, a22⟩ := id hM
  obtain ⟨g0, gi, ⟨g2, g2q⟩, ⟨g3, g3x⟩, g4⟩ := id hW
  obtain ⟨⟨b1, b2, b3, b4, b5⟩, ⟨e1, e2, e3, e4, e5⟩, eV, eM, eMo, eS, eB⟩ := id g0
  have hv : ∀ j, j < aN (wA w) → ∀ c, c < 4 → aV (wA w) j c < 16 := fun j hj c hc => (eV j hj c hc).2
  have gr := hR.gr hW
  refine s_meth 0 ⟨p_Mo, rfl, Nat.le_of_ble_eq_true rfl⟩ rfl (fun sz => ?_)
  refine z_aload_n dX10_at_0 rfl ?_
  refine z_iload_n dX10_at_1 rfl ?_
  refine s_callV1 l_Mo_71 (C_Mo_isRow hM gr.1 (by omega)) m0 dX10_at_2 rfl rfl (Nat.le_of_ble_eq_true rfl) ⟨⟨by decide, by decide⟩, by decide, by decide⟩ ?_
  refine z_if_eq 30 dX10_at_5 (by decide) (fun c5 => ?_) (fun c5 => ?_)
  · refine z_iconst (-1) dX10_at_30 rfl ?_
    refine z_ireturn dX10_at_31 rfl rfl ⟨Nat.le_refl _, Nat.le_refl _⟩ ?_
    first
      | exact ⟨rfl, _, rfl, h1 j c hj hc rfl rfl⟩
      | exact ⟨rfl, _, rfl, h0 (fun q => zoT q.1 c5)⟩
      | exact ⟨rfl, _, rfl, h0 (fun q => zoT q.2 c14)⟩
      | skip
  · refine z_iload_n dX10_at_8 rfl ?_
    refine z_iconst 0 dX10_at_9 rfl ?_
    refine z_iconst 3 dX10_at_10 rfl ?_
    refine s_callS1 l_Mo_63 (C_Mo_in0 (n := 4) (by decide) (by decide)) dX10_at_11 rfl rfl (Nat.le_of_ble_eq_true rfl) ⟨⟨by decide, by decide⟩, by decide, by decide⟩ ?_
    refine z_if_eq 30 dX10_at_14 (by decide) (fun c14 => ?_) (fun c14 => ?_)
    · refine z_iconst (-1) dX10_at_30 rfl ?_
      refine z_ireturn dX10_at_31 rfl rfl ⟨Nat.le_refl _, Nat.le_refl _⟩ ?_
      first
        | exact ⟨rfl, _, rfl, h1 j c hj hc rfl rfl⟩
        | exact ⟨rfl, _, rfl, h0 (fun q => zoT q.1 c5)⟩
        | exact ⟨rfl, _, rfl, h0 (fun q => zoT q.2 c14)⟩
        | skip
    · obtain ⟨j, hj, rfl⟩ := rg_t (by omega) (zo_ne0.mp c5)
      obtain ⟨c, hc, rfl⟩ := rg_t (by decide) (zo_ne0.mp c14)
      refine z_aload_n dX10_at_17 rfl ?_
      refine s_getr f_Mo_11 dX10_at_18 (by assumption) rfl ?_
      refine z_iconst 4 dX10_at_21 rfl ?_
      refine z_iload_n dX10_at_22 rfl ?_
      refine z_imul dX10_at_23 ?_
      refine z_iload_n dX10_at_24 rfl ?_
      refine z_iadd dX10_at_25 ?_
      rw [nI4]
      refine s_iald dX10_at_26 a1 (vp_in_nI (by omega) (by decide)) ?_
      rw [nI_clamp (by omega), gr.2 j hj c hc]
      refine z_goto 31 dX10_at_27 (by decide) ?_
      refine z_ireturn dX10_at_31 rfl rfl ⟨Nat.le_refl _, Nat.le_refl _⟩ ?_
      first
        | exact ⟨rfl, _, rfl, h1 j c hj hc rfl rfl⟩
        | exact ⟨rfl, _, rfl, h0 (fun q => zoT q.1 c5)⟩
        | exact ⟨rfl, _, rfl, h0 (fun q => zoT q.2 c14)⟩
        | skip
theorem C_Mo_mark (hM : tMo sh m) (hR : rMo S m w) (hW : wOK w) (h0 : 10 ≤ aM (wA w) → P (some (.int (-4))) S)
    (h1 : ∀ S', aM (wA w) < 10 → frS S (inM m) S' → rMo S' m ((aMark (wA w), gMark (wA w) (wg w)), w.2) → P (some (.int (nI (aM (wA w))))) S') : zR G m_Mo_mark 1 sh [.ref m] S P := by
  obtain ⟨m0, a1, a2, a3, a4, a5, a6, a7, a8, a9, a10, a11, a12, a13, a14, a15, a16, a22⟩ := id hM
  obtain ⟨k1, k2, k3, ⟨k4, kr⟩, ⟨kL, ktx⟩, kt⟩ := id hR
  obtain ⟨g0, gi, ⟨g2, g2q⟩, ⟨g3, g3x⟩, g4⟩ := id hW
  obtain ⟨⟨b1, b2, b3, b4, b5⟩, ⟨e1, e2, e3, e4, e5⟩, eV, eM, eMo, eS, eB⟩ := id g0
  have hv : ∀ j, j < aN (wA w) → ∀ c, c < 4 → aV (wA w) j c < 16 := fun j hj c hc => (eV j hj c hc).2
  have gn := (k1 480 (by decide)).trans e1
  have gm := (k1 481 (by decide)).trans e2
  refine s_meth 0 ⟨p_Mo, rfl, Nat.le_of_ble_eq_true rfl⟩ rfl (fun sz => ?_)
  refine z_aload_n dX10_mark_0 rfl ?_
  refine s_getr f_Mo_11 dX10_mark_1 (by assumption) rfl ?_
  refine z_sipush 481 dX10_mark_4 (by decide) ?_
  refine s_iald dX10_mark_7 (by assumption) (by first | assumption | exact vp_in_nI (by omega) (by omega) | (unfold vp_in; decide)) ?_
  refine z_bipush 10 dX10_mark_8 (by decide) ?_
  rw [show (481 : Int32).toNatClampNeg = 481 from rfl, gm]
  refine z_icmp_ne 16 dX10_mark_10 (by decide) (fun c10 => ?_) (fun c10 => ?_)
  · have hM1 : ¬ aM (wA w) = 10 := fun q => c10 (by rw [q]; rfl)
    refine z_aload_n dX10_mark_16 rfl ?_
    refine s_getr f_Mo_11 dX10_mark_17 (by assumption) rfl ?_
    refine z_sipush 482 dX10_mark_20 (by decide) ?_
    refine z_aload_n dX10_mark_23 rfl ?_
    refine s_getr f_Mo_11 dX10_mark_24 (by assumption) rfl ?_
    refine z_sipush 481 dX10_mark_27 (by decide) ?_
    refine s_iald dX10_mark_30 (by assumption) (by first | assumption | exact vp_in_nI (by omega) (by omega) | (unfold vp_in; decide)) ?_
    rw [show (481 : Int32).toNatClampNeg = 481 from rfl, gm, show (482 : Int32) = nI 482 from rfl]
    refine z_iadd dX10_mark_31 ?_
    rw [nI_add]
    refine z_aload_n dX10_mark_32 rfl ?_
    refine s_getr f_Mo_11 dX10_mark_33 (by assumption) rfl ?_
    refine z_sipush 480 dX10_mark_36 (by decide) ?_
    refine s_iald dX10_mark_39 (by assumption) (by first | assumption | exact vp_in_nI (by omega) (by omega) | (unfold vp_in; decide)) ?_
    rw [show (480 : Int32).toNatClampNeg = 480 from rfl, gn]
    refine s_iast dX10_mark_40 a1 (vp_in_nI (by omega) (by decide)) ?_
    rw [nI_clamp (by omega)]
    refine z_aload_n dX10_mark_41 rfl ?_
    refine s_getr f_Mo_11 dX10_mark_42 (by assumption) rfl ?_
    refine z_sipush 481 dX10_mark_45 (by decide) ?_
    refine z_dup2 dX10_mark_48 rfl rfl ?_
    refine s_iald dX10_mark_49 (by assumption) (by first | assumption | exact vp_in_nI (by omega) (by omega) | (unfold vp_in; decide)) ?_
    rw [show (481 : Int32).toNatClampNeg = 481 from rfl, za_san (by omega), gm]
    refine z_dup_x2 dX10_mark_50 rfl rfl rfl ?_
    refine z_iconst 1 dX10_mark_51 rfl ?_
    refine z_iadd dX10_mark_52 ?_
    rw [nI_1]
    refine s_iast dX10_mark_53 (by assumption) (by first | assumption | exact vp_in_nI (by omega) (by omega) | (unfold vp_in; decide)) ?_
    refine z_ireturn dX10_mark_54 rfl rfl ⟨Nat.le_refl _, Nat.le_refl _⟩ ?_
    exact ⟨rfl, _, rfl, h1 _ (by omega) ((frS.seta inM1).trans (frS.seta inM1)) (hR.now (P := fun b => b = m + 1) frM2 (fun b p1 p2 p3 p4 p5 p6 => p3) (za_gset (za_gset k1)))⟩
  · have hM1 : aM (wA w) = 10 := (nI_eq (b := 10) (by omega) (by decide)).mp c10
    refine z_bipush (-4) dX10_mark_13 (by decide) ?_
    refine z_ireturn dX10_mark_15 rfl rfl ⟨Nat.le_refl _, Nat.le_refl _⟩ ?_
    exact ⟨rfl, _, rfl, h0 (by omega)⟩
theorem C_Mo_back {p : Int32} (hM : tMo sh m) (hR : rMo S m w) (hW : wOK w) (h0 : ¬ rg p (aM (wA w)) = true → P (some (.int (-1))) S)
    (h1 : ∀ k S', k < aM (wA w) → p = nI k → frS S (inM m) S' → rMo S' m ((aBack (wA w) k, gBack (wA w) (wg w) k), w.2) → P (some (.int (nI (aN (wA w) - aT (wA w) k)))) S') : zR G m_Mo_back 2 sh [.ref m, .int p] S P := by
  obtain ⟨m0, a1, a2, a3, a4, a5, a6, a7, a8, a9, a10, a11, a12, a13, a14, a15, a16, a22⟩ := id hM
  obtain ⟨k1, k2, k3, ⟨k4, kr⟩, ⟨kL, ktx⟩, kt⟩ := id hR
  obtain ⟨g0, gi, ⟨g2, g2q⟩, ⟨g3, g3x⟩, g4⟩ := id hW
  obtain ⟨⟨b1, b2, b3, b4, b5⟩, ⟨e1, e2, e3, e4, e5⟩, eV, eM, eMo, eS, eB⟩ := id g0
  have hv : ∀ j, j < aN (wA w) → ∀ c, c < 4 → aV (wA w) j c < 16 := fun j hj c hc => (eV j hj c hc).2
  have gn := (k1 480 (by decide)).trans e1
  have gm := (k1 481 (by decide)).trans e2
  refine s_meth 1 ⟨p_Mo, rfl, Nat.le_of_ble_eq_true rfl⟩ rfl (fun sz => ?_)
  refine z_iload_n dX10_back_0 rfl ?_
  refine z_iconst 0 dX10_back_1 rfl ?_
  refine z_aload_n dX10_back_2 rfl ?_
  refine s_getr f_Mo_11 dX10_back_3 (by assumption) rfl ?_
  refine z_sipush 481 dX10_back_6 (by decide) ?_
  refine s_iald dX10_back_9 (by assumption) (by first | assumption | exact vp_in_nI (by omega) (by omega) | (unfold vp_in; decide)) ?_
  rw [show (481 : Int32).toNatClampNeg = 481 from rfl, gm]
  refine z_iconst 1 dX10_back_10 rfl ?_
  refine z_isub dX10_back_11 ?_
  refine s_callS1 l_Mo_63 (C_Mo_in0 (n := aM (wA w)) rfl (by omega)) dX10_back_12 rfl rfl (Nat.le_of_ble_eq_true rfl) ⟨⟨by decide, by decide⟩, by decide, by decide⟩ ?_
  refine z_if_ne 20 dX10_back_15 (by decide) (fun c15 => ?_) (fun c15 => ?_)
  · obtain ⟨k, hk, rfl⟩ := rg_t (by omega) (zo_ne0.mp c15)
    have gk := (k1 (482 + k) (by omega)).trans (eM k hk).1
    have hm := (eM k hk).2
    refine z_aload_n dX10_back_20 rfl ?_
    refine s_getr f_Mo_11 dX10_back_21 (by assumption) rfl ?_
    refine z_sipush 480 dX10_back_24 (by decide) ?_
    refine s_iald dX10_back_27 (by assumption) (by first | assumption | exact vp_in_nI (by omega) (by omega) | (unfold vp_in; decide)) ?_
    rw [show (480 : Int32).toNatClampNeg = 480 from rfl, gn]
    refine z_aload_n dX10_back_28 rfl ?_
    refine s_getr f_Mo_11 dX10_back_29 (by assumption) rfl ?_
    refine z_sipush 482 dX10_back_32 (by decide) ?_
    refine z_iload_n dX10_back_35 rfl ?_
    refine z_iadd dX10_back_36 ?_
    rw [show (482 : Int32) = nI 482 from rfl, nI_add]
    refine s_iald dX10_back_37 a1 (vp_in_nI (by omega) (by decide)) ?_
    rw [nI_clamp (by omega), gk]
    refine z_isub dX10_back_38 ?_
    rw [pk_sub hm]
    refine z_istore_n (lv' := [_, _, _]) dX10_back_39 (by decide) rfl ?_
    refine z_aload_n dX10_back_40 rfl ?_
    refine s_getr f_Mo_11 dX10_back_41 (by assumption) rfl ?_
    refine z_sipush 480 dX10_back_44 (by decide) ?_
    refine z_aload_n dX10_back_47 rfl ?_
    refine s_getr f_Mo_11 dX10_back_48 (by assumption) rfl ?_
    refine z_sipush 482 dX10_back_51 (by decide) ?_
    refine z_iload_n dX10_back_54 rfl ?_
    refine z_iadd dX10_back_55 ?_
    rw [show (482 : Int32) = nI 482 from rfl, nI_add]
    refine s_iald dX10_back_56 a1 (vp_in_nI (by omega) (by decide)) ?_
    rw [nI_clamp (by omega), gk]
    refine s_iast dX10_back_57 (by assumption) (by first | assumption | exact vp_in_nI (by omega) (by omega) | (unfold vp_in; decide)) ?_
    refine z_aload_n dX10_back_58 rfl ?_
    refine s_getr f_Mo_11 dX10_back_59 (by assumption) rfl ?_
    refine z_sipush 481 dX10_back_62 (by decide) ?_
    refine z_iload_n dX10_back_65 rfl ?_
    refine z_iconst 1 dX10_back_66 rfl ?_
    refine z_iadd dX10_back_67 ?_
    rw [nI_1]
    refine s_iast dX10_back_68 (by assumption) (by first | assumption | exact vp_in_nI (by omega) (by omega) | (unfold vp_in; decide)) ?_
    refine z_iload_n dX10_back_69 rfl ?_
    refine z_ireturn dX10_back_70 rfl rfl ⟨Nat.le_refl _, Nat.le_refl _⟩ ?_
    exact ⟨rfl, _, rfl, h1 k _ hk rfl ((frS.seta inM1).trans (frS.seta inM1)) (hR.now (P := fun b => b = m + 1) frM2 (fun b p1 p2 p3 p4 p5 p6 => p3) (za_gset (za_gset k1)))⟩
  · refine z_iconst (-1) dX10_back_18 rfl ?_
    refine z_ireturn dX10_back_19 rfl rfl ⟨Nat.le_refl _, Nat.le_refl _⟩ ?_
    exact ⟨rfl, _, rfl, h0 (fun q => zoT q c15)⟩
theorem C_Mo_bit (hM : tMo sh m) (hg : gRows S m n v) (hn : n ≤ 120) (hj : j < n) (hc : c < 4) (hk : k < 20) (hv : v j c < 16) : zD G m_Mo_bit 1 sh [.ref m, .int (nI j), .int (nI c), .int (nI k)] S (some (.int (zo (kb k (v j c))))) S := by
  obtain ⟨m0, a1, a2, a3, a4, a5, a6, a7, a8, a9, a10, a11, a12, a13, a14, a15, a16, a22⟩ := id hM
  unfold kb
  refine s_methD 1 ⟨p_Mo, rfl, Nat.le_of_ble_eq_true rfl⟩ rfl (fun sz => ?_)
  refine z_aload_n dX10_bit_0 rfl ?_
  refine s_getr f_Mo_11 dX10_bit_1 (by assumption) rfl ?_
  refine z_iconst 4 dX10_bit_4 rfl ?_
  refine z_iload_n dX10_bit_5 rfl ?_
  refine z_imul dX10_bit_6 ?_
  refine z_iload_n dX10_bit_7 rfl ?_
  refine z_iadd dX10_bit_8 ?_
  rw [nI4]
  refine s_iald dX10_bit_9 a1 (vp_in_nI (by omega) (by decide)) ?_
  rw [nI_clamp (by omega), hg.2 j hj c hc]
  refine z_istore (lv' := [_, _, _, _, _]) dX10_bit_10 (by decide) rfl ?_
  refine z_iload_n dX10_bit_12 rfl ?_
  refine z_bipush 16 dX10_bit_13 (by decide) ?_
  refine z_icmp_ge 32 dX10_bit_15 (by decide) (fun c15 => ?_) (fun c15 => ?_)
  · have hk16 := i_le (a := 16) (by decide) (by omega) c15
    rw [if_neg (by omega)]
    refine z_iload dX10_bit_32 rfl ?_
    refine z_iload_n dX10_bit_34 rfl ?_
    refine z_bipush 16 dX10_bit_35 (by decide) ?_
    refine z_isub dX10_bit_37 ?_
    rw [show (16 : Int32) = nI 16 from rfl, pk_sub hk16]
    refine z_ishr dX10_bit_38 ?_
    refine z_iconst 1 dX10_bit_39 rfl ?_
    refine z_iand dX10_bit_40 ?_
    refine z_iconst 1 dX10_bit_41 rfl ?_
    rw [shr1 _ hv _ (by omega)]
    refine z_icmp_ne 49 dX10_bit_42 (by decide) (fun c42 => ?_) (fun c42 => ?_)
    · rw [show (v j c).testBit (k - 16) = false by revert c42; cases (v j c).testBit (k - 16) <;> simp [zo]]
      refine z_iconst 0 dX10_bit_49 rfl ?_
      refine z_ireturn dX10_bit_50 rfl rfl ⟨Nat.le_refl _, Nat.le_refl _⟩ ?_
      exact ⟨rfl, rfl, rfl⟩
    · rw [show (v j c).testBit (k - 16) = true by revert c42; cases (v j c).testBit (k - 16) <;> simp [zo]]
      refine z_iconst 1 dX10_bit_45 rfl ?_
      refine z_goto 50 dX10_bit_46 (by decide) ?_
      refine z_ireturn dX10_bit_50 rfl rfl ⟨Nat.le_refl _, Nat.le_refl _⟩ ?_
      exact ⟨rfl, rfl, rfl⟩
  · have hk16 := i_nle (a := 16) (by omega) c15
    rw [if_pos hk16]
    refine z_iload dX10_bit_18 rfl ?_
    refine z_iload_n dX10_bit_20 rfl ?_
    refine z_icmp_ne 28 dX10_bit_21 (by decide) (fun c21 => ?_) (fun c21 => ?_)
    · rw [decide_eq_false (fun q => c21 (by rw [q]))]
      refine z_iconst 0 dX10_bit_28 rfl ?_
      refine z_goto 50 dX10_bit_29 (by decide) ?_
      refine z_ireturn dX10_bit_50 rfl rfl ⟨Nat.le_refl _, Nat.le_refl _⟩ ?_
      exact ⟨rfl, rfl, rfl⟩
    · rw [decide_eq_true ((nI_eq (by omega) (by omega)).mp c21)]
      refine z_iconst 1 dX10_bit_24 rfl ?_
      refine z_goto 50 dX10_bit_25 (by decide) ?_
      refine z_ireturn dX10_bit_50 rfl rfl ⟨Nat.le_refl _, Nat.le_refl _⟩ ?_
      exact ⟨rfl, rfl, rfl⟩
theorem C_Mo_runsOf (hM : tMo sh m) (hg : gRows S m n v) (hn : n ≤ 120) (hc : c < 4) (hk : k < 20) (hv : ∀ j, j < n → ∀ c, c < 4 → v j c < 16) : zD G m_Mo_runsOf 2 sh [.ref m, .int (nI c), .int (nI k)] S (some (.int (nI (runsN (kbits v c k) n)))) S := by
  obtain ⟨m0, a1, a2, a3, a4, a5, a6, a7, a8, a9, a10, a11, a12, a13, a14, a15, a16, a22⟩ := id hM
  refine s_methD 2 ⟨p_Mo, rfl, Nat.le_of_ble_eq_true rfl⟩ rfl (fun sz => ?_)
  have loop : ∀ d i, n - i = d → i ≤ n → zW G m_Mo_runsOf (zRm 2 0 0) (zFm G (zQe (some (.int (nI (runsN (kbits v c k) n)))) (zhp sh S) sz) 0 0) 0 0 5 [some (.ref m), some (.int (nI c)), some (.int (nI k)), some (.int (nI (fb_ct (chg (kbits v c k)) i))), some (.int (nI i))] [] (zhp sh S) sz := by
    intro d
    induction d with
    | zero =>
      intro i h1 h2
      have hi : i = n := by omega
      subst hi
      refine z_iload dX10_runsOf_5 rfl ?_
      refine z_aload_n dX10_runsOf_7 rfl ?_
      refine s_getr f_Mo_11 dX10_runsOf_8 (by assumption) rfl ?_
      refine z_sipush 480 dX10_runsOf_11 (by decide) ?_
      refine s_iald dX10_runsOf_14 (by assumption) (by first | assumption | exact vp_in_nI (by omega) (by omega) | (unfold vp_in; decide)) ?_
      rw [show (480 : Int32).toNatClampNeg = 480 from rfl, hg.1]
      refine z_icmp_ge 58 dX10_runsOf_15 (by decide) (fun c15 => ?_) (fun c15 => ?_)
      · refine z_iload_n dX10_runsOf_58 rfl ?_
        refine z_ireturn dX10_runsOf_59 rfl rfl ⟨Nat.le_refl _, Nat.le_refl _⟩ ?_
        exact ⟨rfl, rfl, rfl⟩
      · exact absurd (nI_le (Nat.le_refl _) (by omega)) c15
    | succ d ih =>
      intro i h1 h2
      have ih2 := ih (i + 1) (by omega) (by omega)
      rw [fb_ct_succ] at ih2
      refine z_iload dX10_runsOf_5 rfl ?_
      refine z_aload_n dX10_runsOf_7 rfl ?_
      refine s_getr f_Mo_11 dX10_runsOf_8 (by assumption) rfl ?_
      refine z_sipush 480 dX10_runsOf_11 (by decide) ?_
      refine s_iald dX10_runsOf_14 (by assumption) (by first | assumption | exact vp_in_nI (by omega) (by omega) | (unfold vp_in; decide)) ?_
      rw [show (480 : Int32).toNatClampNeg = 480 from rfl, hg.1]
      refine z_icmp_ge 58 dX10_runsOf_15 (by decide) (fun c15 => ?_) (fun c15 => ?_)
      · exact absurd c15 (nI_ge (by omega) (by omega))
      · refine z_iload_n dX10_runsOf_18 rfl ?_
        refine z_iload dX10_runsOf_19 rfl ?_
        refine z_if_eq 45 dX10_runsOf_21 (by decide) (fun c21 => ?_) (fun c21 => ?_)
        · have hi0 : i = 0 := (nI_eq (b := 0) (by omega) (by decide)).mp c21
          have hch : chg (kbits v c k) i = true := by unfold chg; rw [decide_eq_true hi0]; rfl
          refine z_iconst 1 dX10_runsOf_45 rfl ?_
          refine z_goto 50 dX10_runsOf_46 (by decide) ?_
          refine z_iadd dX10_runsOf_50 ?_
          refine z_istore_n (lv' := [_, _, _, _, _]) dX10_runsOf_51 (by decide) rfl ?_
          refine z_iinc (lv' := [_, _, _, _, _]) 1 dX10_runsOf_52 rfl (by decide) rfl rfl ?_
          refine z_goto 5 dX10_runsOf_55 (by decide) ?_
          rw [hch] at ih2
          rw [nI_1]
          first
            | (rw [nI_1]; exact ih2)
            | (rw [Int32.add_zero]; exact ih2)
            | skip
        · have hi0 : ¬ i = 0 := fun q => c21 (by rw [q]; rfl)
          obtain ⟨i', rfl⟩ : ∃ i', i = i' + 1 := ⟨i - 1, by omega⟩
          refine z_aload_n dX10_runsOf_24 rfl ?_
          refine z_iload dX10_runsOf_25 rfl ?_
          refine z_iload_n dX10_runsOf_27 rfl ?_
          refine z_iload_n dX10_runsOf_28 rfl ?_
          refine s_callV1 l_Mo_75 (C_Mo_bit hM hg hn (by omega) hc hk (hv _ (by omega) c hc)) m0 dX10_runsOf_29 rfl rfl (Nat.le_of_ble_eq_true rfl) ⟨⟨by decide, by decide⟩, by decide, by decide⟩ ?_
          refine z_aload_n dX10_runsOf_32 rfl ?_
          refine z_iload dX10_runsOf_33 rfl ?_
          refine z_iconst 1 dX10_runsOf_35 rfl ?_
          refine z_isub dX10_runsOf_36 ?_
          rw [nI_pred]
          refine z_iload_n dX10_runsOf_37 rfl ?_
          refine z_iload_n dX10_runsOf_38 rfl ?_
          refine s_callV1 l_Mo_75 (C_Mo_bit hM hg hn (by omega) hc hk (hv _ (by omega) c hc)) m0 dX10_runsOf_39 rfl rfl (Nat.le_of_ble_eq_true rfl) ⟨⟨by decide, by decide⟩, by decide, by decide⟩ ?_
          refine z_icmp_eq 49 dX10_runsOf_42 (by decide) (fun c42 => ?_) (fun c42 => ?_)
          · have hch : chg (kbits v c k) (i' + 1) = false := by
              unfold chg kbits
              rw [decide_eq_false hi0, Nat.add_sub_cancel, zo_inj.mp c42]
              simp
            refine z_iconst 0 dX10_runsOf_49 rfl ?_
            refine z_iadd dX10_runsOf_50 ?_
            refine z_istore_n (lv' := [_, _, _, _, _]) dX10_runsOf_51 (by decide) rfl ?_
            refine z_iinc (lv' := [_, _, _, _, _]) 1 dX10_runsOf_52 rfl (by decide) rfl rfl ?_
            refine z_goto 5 dX10_runsOf_55 (by decide) ?_
            rw [hch] at ih2
            rw [nI_1]
            first
              | (rw [nI_1]; exact ih2)
              | (rw [Int32.add_zero]; exact ih2)
              | skip
          · have hch : chg (kbits v c k) (i' + 1) = true := by
              unfold chg kbits
              rw [Nat.add_sub_cancel, decide_eq_false hi0, Bool.false_or]
              exact bne_iff_ne.mpr (fun q => c42 (zo_inj.mpr q))
            refine z_iconst 1 dX10_runsOf_45 rfl ?_
            refine z_goto 50 dX10_runsOf_46 (by decide) ?_
            refine z_iadd dX10_runsOf_50 ?_
            refine z_istore_n (lv' := [_, _, _, _, _]) dX10_runsOf_51 (by decide) rfl ?_
            refine z_iinc (lv' := [_, _, _, _, _]) 1 dX10_runsOf_52 rfl (by decide) rfl rfl ?_
            refine z_goto 5 dX10_runsOf_55 (by decide) ?_
            rw [hch] at ih2
            rw [nI_1]
            first
              | (rw [nI_1]; exact ih2)
              | (rw [Int32.add_zero]; exact ih2)
              | skip
  refine z_iconst 0 dX10_runsOf_0 rfl ?_
  refine z_istore_n (lv' := [_, _, _, _, _]) dX10_runsOf_1 (by decide) rfl ?_
  refine z_iconst 0 dX10_runsOf_2 rfl ?_
  refine z_istore (lv' := [_, _, _, _, _]) dX10_runsOf_3 (by decide) rfl ?_
  exact loop n 0 rfl (Nat.zero_le _)
theorem C_Mo_runs {p q : Int32} (hM : tMo sh m) (hR : rMo S m w) (hW : wOK w) (h0 : ¬ (rg p 4 = true ∧ rg q 20 = true) → P (some (.int (-1))) S)
    (h1 : ∀ c k, c < 4 → k < 20 → p = nI c → q = nI k → P (some (.int (nI (runsN (kbits (aV (wA w)) c k) (aN (wA w)))))) S) : zR G m_Mo_runs 3 sh [.ref m, .int p, .int q] S P := by
  obtain ⟨m0, a1, a2, a3, a4, a5, a6, a7, a8, a9, a10, a11, a12, a13, a14, a15, a16, a22⟩ := id hM
  obtain ⟨g0, gi, ⟨g2, g2q⟩, ⟨g3, g3x⟩, g4⟩ := id hW
  obtain ⟨⟨b1, b2, b3, b4, b5⟩, ⟨e1, e2, e3, e4, e5⟩, eV, eM, eMo, eS, eB⟩ := id g0
  have hv : ∀ j, j < aN (wA w) → ∀ c, c < 4 → aV (wA w) j c < 16 := fun j hj c hc => (eV j hj c hc).2
  have gr := hR.gr hW
  refine s_meth 0 ⟨p_Mo, rfl, Nat.le_of_ble_eq_true rfl⟩ rfl (fun sz => ?_)
  refine z_iload_n dX10_runs_0 rfl ?_
  refine z_iconst 0 dX10_runs_1 rfl ?_
  refine z_iconst 3 dX10_runs_2 rfl ?_
  refine s_callS1 l_Mo_63 (C_Mo_in0 (n := 4) (by decide) (by decide)) dX10_runs_3 rfl rfl (Nat.le_of_ble_eq_true rfl) ⟨⟨by decide, by decide⟩, by decide, by decide⟩ ?_
  refine z_if_eq 28 dX10_runs_6 (by decide) (fun c6 => ?_) (fun c6 => ?_)
  · refine z_iconst (-1) dX10_runs_28 rfl ?_
    refine z_ireturn dX10_runs_29 rfl rfl ⟨Nat.le_refl _, Nat.le_refl _⟩ ?_
    first
      | exact ⟨rfl, _, rfl, h1 c k hc hk rfl rfl⟩
      | exact ⟨rfl, _, rfl, h0 (fun q => zoT q.1 c6)⟩
      | exact ⟨rfl, _, rfl, h0 (fun q => zoT q.2 c16)⟩
      | skip
  · refine z_iload_n dX10_runs_9 rfl ?_
    refine z_iconst 0 dX10_runs_10 rfl ?_
    refine z_bipush 19 dX10_runs_11 (by decide) ?_
    refine s_callS1 l_Mo_63 (C_Mo_in0 (n := 20) (by decide) (by decide)) dX10_runs_13 rfl rfl (Nat.le_of_ble_eq_true rfl) ⟨⟨by decide, by decide⟩, by decide, by decide⟩ ?_
    refine z_if_eq 28 dX10_runs_16 (by decide) (fun c16 => ?_) (fun c16 => ?_)
    · refine z_iconst (-1) dX10_runs_28 rfl ?_
      refine z_ireturn dX10_runs_29 rfl rfl ⟨Nat.le_refl _, Nat.le_refl _⟩ ?_
      first
        | exact ⟨rfl, _, rfl, h1 c k hc hk rfl rfl⟩
        | exact ⟨rfl, _, rfl, h0 (fun q => zoT q.1 c6)⟩
        | exact ⟨rfl, _, rfl, h0 (fun q => zoT q.2 c16)⟩
        | skip
    · obtain ⟨c, hc, rfl⟩ := rg_t (by decide) (zo_ne0.mp c6)
      obtain ⟨k, hk, rfl⟩ := rg_t (by decide) (zo_ne0.mp c16)
      refine z_aload_n dX10_runs_19 rfl ?_
      refine z_iload_n dX10_runs_20 rfl ?_
      refine z_iload_n dX10_runs_21 rfl ?_
      refine s_callV1 l_Mo_78 (C_Mo_runsOf hM gr b1 hc hk hv) m0 dX10_runs_22 rfl rfl (Nat.le_of_ble_eq_true rfl) ⟨⟨by decide, by decide⟩, by decide, by decide⟩ ?_
      refine z_goto 29 dX10_runs_25 (by decide) ?_
      refine z_ireturn dX10_runs_29 rfl rfl ⟨Nat.le_refl _, Nat.le_refl _⟩ ?_
      first
        | exact ⟨rfl, _, rfl, h1 c k hc hk rfl rfl⟩
        | exact ⟨rfl, _, rfl, h0 (fun q => zoT q.1 c6)⟩
        | exact ⟨rfl, _, rfl, h0 (fun q => zoT q.2 c16)⟩
        | skip
end MOA

