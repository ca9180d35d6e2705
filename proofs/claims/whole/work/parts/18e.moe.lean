/-! ===== the model: queries gone through ===== -/
/-- what the model knows of a query of rows -/
def mQ (S : zSt) (m n : Nat) (v : Nat → Nat → Nat) (q N : Nat) (nd : Nd) (stk : Nat → List Nat) : Prop := gRows S m n v ∧ n ≤ 120 ∧ (∀ j, j < n → ∀ c, c < 4 → v j c < 16) ∧ rNd S m (60 * q) N nd ∧ q < 8 ∧ wfQ nd N stk
theorem mQ.fr {S S' : zSt} {m n q N : Nat} {v : Nat → Nat → Nat} {nd : Nd} {stk : Nat → List Nat} {P : Nat → Prop} (h : mQ S m n v q N nd stk) (hf : frS S P S') (hP : ¬ P (m + 1) ∧ ∀ b, m + 5 ≤ b → b < m + 11 → ¬ P b) : mQ S' m n v q N nd stk :=
  ⟨h.1.fr hf hP.1, h.2.1, h.2.2.1, h.2.2.2.1.fr hf hP.2, h.2.2.2.2⟩
theorem rMo.mq {S : zSt} {m k : Nat} {w : Wd} (h : rMo S m w) (hW : wOK w) (hk : k < wq w) : mQ S m (aN (wA w)) (aV (wA w)) k (wN w k) (wnd w k) (stkF (wnd w k)) :=
  ⟨h.gr hW, hW.1.1.1, fun j hj c hc => (hW.1.2.2.1 j hj c hc).2, (h.2.2.2.1.2 k hk).2, Nat.lt_of_lt_of_le hk hW.2.2.1.1, hW.2.2.1.2 k hk⟩
/-- how many questions (or nots) a node has -/
def srtF (nd : Nd) (b : Bool) : Nat → Nat → Nat
  | 0, _ => 0
  | k + 1, i => if nS nd i ≤ 3 then (if b = true then 0 else 1) else if nS nd i = 4 then (if b = true then 1 else 0) + srtF nd b k (nO nd i) else srtF nd b k (nO nd i) + srtF nd b k (nT nd i)
def srt (nd : Nd) (b : Bool) (i : Nat) : Nat := srtF nd b (i + 1) i
theorem srtF_st {nd : Nd} {b : Bool} {N : Nat} (h : ∀ i, i < N → (4 ≤ nS nd i → nO nd i < i) ∧ (5 ≤ nS nd i → nT nd i < i)) : ∀ i, i < N → ∀ k, i < k → srtF nd b k i = srt nd b i := by
  intro i
  induction i using Nat.strongRecOn with
  | _ i ih =>
    intro hi k hk
    obtain ⟨k, rfl⟩ : ∃ m, k = m + 1 := ⟨k - 1, by omega⟩
    unfold srt srtF
    by_cases h3 : nS nd i ≤ 3
    · rw [if_pos h3, if_pos h3]
    · rw [if_neg h3, if_neg h3]
      have hO := (h i hi).1 (by omega)
      by_cases h4 : nS nd i = 4
      · rw [if_pos h4, if_pos h4, ih _ hO (by omega) k (by omega), ih _ hO (by omega) i hO]
      · have hT := (h i hi).2 (by omega)
        rw [if_neg h4, if_neg h4, ih _ hO (by omega) k (by omega), ih _ hO (by omega) i hO, ih _ hT (by omega) k (by omega), ih _ hT (by omega) i hT]
theorem srt_leaf {nd : Nd} {b : Bool} {i : Nat} (h : nS nd i ≤ 3) : srt nd b i = if b = true then 0 else 1 := by
  unfold srt srtF; rw [if_pos h]
theorem srt_not {nd : Nd} {b : Bool} {N i : Nat} (h : ∀ i, i < N → (4 ≤ nS nd i → nO nd i < i) ∧ (5 ≤ nS nd i → nT nd i < i)) (hi : i < N) (h4 : nS nd i = 4) : srt nd b i = (if b = true then 1 else 0) + srt nd b (nO nd i) := by
  have hO := (h i hi).1 (by omega)
  rw [show srt nd b i = srtF nd b (i + 1) i from rfl]
  unfold srtF
  rw [if_neg (by omega), if_pos h4, srtF_st h _ (by omega) i hO]
theorem srt_join {nd : Nd} {b : Bool} {N i : Nat} (h : ∀ i, i < N → (4 ≤ nS nd i → nO nd i < i) ∧ (5 ≤ nS nd i → nT nd i < i)) (hi : i < N) (h5 : 5 ≤ nS nd i) : srt nd b i = srt nd b (nO nd i) + srt nd b (nT nd i) := by
  have hO := (h i hi).1 (by omega)
  have hT := (h i hi).2 (by omega)
  rw [show srt nd b i = srtF nd b (i + 1) i from rfl]
  unfold srtF
  rw [if_neg (by omega), if_neg (by omega), srtF_st h _ (by omega) i hO, srtF_st h _ (by omega) i hT]
def lsm (f : Nat → Nat) : List Nat → Nat
  | [] => 0
  | a :: l => f a + lsm f l
abbrev srP (nd : Nd) (b : Bool) : Nat → Bool := fun i => if b = true then decide (nS nd i = 4) else decide (nS nd i ≤ 3)
theorem srt_stk {nd : Nd} {b : Bool} {N : Nat} {stk : Nat → List Nat} (hw : wfQ nd N stk) : ∀ i, i ≤ N → lsm (srt nd b) (stk i) = fb_ct (srP nd b) i := by
  obtain ⟨w0, wN, wst0, wstN, wlen, wok⟩ := hw
  have hk := fun i hi => kid_lt wst0 (fun i hi => (wok i hi).1) (i := i) hi
  intro i
  induction i with
  | zero => intro _; rw [wst0]; rfl
  | succ i ih =>
    intro hi
    have ih := ih (by omega)
    rw [fb_ct_succ, ← ih]
    rcases (wok i (by omega)).1 with ⟨q, e⟩ | ⟨q, a, l, e1, e2, e⟩ | ⟨q, a1, b1, l, e1, e2, e3, e⟩
    · rw [e]
      show srt nd b i + lsm (srt nd b) (stk i) = _
      rw [srt_leaf q, Nat.add_comm]
      congr 1
      cases b <;> simp [q]
      omega
    · rw [e, e1]
      show srt nd b i + lsm (srt nd b) l = srt nd b a + lsm (srt nd b) l + _
      rw [srt_not hk (by omega) q, e2]
      cases b <;> simp [q] <;> omega
    · rw [e, e1]
      show srt nd b i + lsm (srt nd b) l = srt nd b b1 + (srt nd b a1 + lsm (srt nd b) l) + _
      rw [srt_join hk (by omega) (by omega), e2, e3]
      have q1 : ¬ nS nd i = 4 := by omega
      have q2 : ¬ nS nd i ≤ 3 := by omega
      cases b <;> simp [q1, q2] <;> omega
theorem srt_root {nd : Nd} {b : Bool} {N : Nat} {stk : Nat → List Nat} (hw : wfQ nd N stk) : srt nd b (N - 1) = fb_ct (srP nd b) N := by
  have h := srt_stk (b := b) hw N (Nat.le_refl _)
  rw [hw.2.2.2.1] at h
  exact h
theorem sub_m1 (k : Int32) (c : Nat) : k - nI c + -1 = k - nI (c + 1) := by
  rw [← Int32.sub_eq_add_neg, Int32.sub_sub, nI_1]
theorem sub_0 {k y : Int32} : k - y = 0 ↔ k = y := by
  constructor
  · intro h
    have e : k - y + y = 0 + y := by rw [h]
    rw [Int32.sub_add_cancel, Int32.zero_add] at e
    exact e
  · intro h; rw [h, Int32.sub_self]
section MOE
variable {G : zG} {sh : Nat → Option zSh} {S : zSt} {m n c k j a b i q N : Nat} {w : Wd} {v : Nat → Nat → Nat} {nd : Nd} {stk : Nat → List Nat} {P : Option Value → zSt → Prop}
theorem C_Mo_isSo (hM : tMo sh m) (hQ : mQ S m n v q N nd stk) (hj : j < n) : ∀ i, i < N → zD G m_Mo_isSo (i + 2) sh [.ref m, .int (nI (60 * q + i)), .int (nI j)] S (some (.int (zo ((sem n v nd i).1 j)))) S := by
  obtain ⟨m0, a1, a2, a3, a4, a5, a6, a7, a8, a9, a10, a11, a12, a13, a14, a15, a16, a22⟩ := id hM
  obtain ⟨hg, hn, hv, hnd, hq, hw⟩ := hQ
  obtain ⟨w0, wN, wst0, wstN, wlen, wok⟩ := id hw
  have hk := fun i hi => kid_lt wst0 (fun i hi => (wok i hi).1) (i := i) hi
  intro i
  induction i using Nat.strongRecOn with
  | _ i ih =>
    intro hi
    obtain ⟨d1, d2, d3, d4, d5, d6⟩ := hnd i hi
    obtain ⟨o1, o2, o3⟩ := (wok i hi).2
    have hvv := hv j hj _ o1
    have s7 := hw.s7 hi
    have hO := (hk i hi).1
    have hT := (hk i hi).2
    have ik : ∀ t, t < 7 → nI (nS nd i) = nI t → nS nd i = t := fun t ht h => (nI_eq (by omega) (by omega)).mp h
    refine s_methD 1 ⟨p_Mo, rfl, Nat.le_of_ble_eq_true rfl⟩ rfl (fun sz => ?_)
    refine z_aload_n dX10_isSo_0 rfl ?_
    refine s_getr f_Mo_11 dX10_isSo_1 (by assumption) rfl ?_
    refine z_iconst 4 dX10_isSo_4 rfl ?_
    refine z_iload_n dX10_isSo_5 rfl ?_
    refine z_imul dX10_isSo_6 ?_
    refine z_aload_n dX10_isSo_7 rfl ?_
    refine s_getr f_Mo_27 dX10_isSo_8 (by assumption) rfl ?_
    refine z_iload_n dX10_isSo_11 rfl ?_
    refine s_iald dX10_isSo_12 a6 (vp_in_nI (by omega) (by decide)) ?_
    rw [nI_clamp (by omega), d2]
    refine z_iadd dX10_isSo_13 ?_
    rw [nI4]
    refine s_iald dX10_isSo_14 a1 (vp_in_nI (by omega) (by decide)) ?_
    rw [nI_clamp (by omega), hg.2 j hj _ o1]
    refine z_istore_n (lv' := [_, _, _, _]) dX10_isSo_15 (by decide) rfl ?_
    refine z_aload_n dX10_isSo_16 rfl ?_
    refine s_getr f_Mo_24 dX10_isSo_17 (by assumption) rfl ?_
    refine z_iload_n dX10_isSo_20 rfl ?_
    refine s_iald dX10_isSo_21 a5 (vp_in_nI (by omega) (by decide)) ?_
    rw [nI_clamp (by omega), d1]
    refine z_table 0 [60, 62, 78, 94, 120, 140] 174 dX10_isSo_22 (by decide) ⟨fun c22 => ?_, fun c22 => ?_, fun c22 => ?_, fun c22 => ?_, fun c22 => ?_, fun c22 => ?_, trivial⟩ (fun c22 => ?_)
    · have hs := ik 0 (by decide) c22
      have hS : (sem n v nd i).1 j = true := by rw [sem_leaf (by omega), hs]; rfl
      refine z_iconst 1 dX10_isSo_60 rfl ?_
      refine z_ireturn dX10_isSo_61 rfl rfl ⟨Nat.le_refl _, Nat.le_refl _⟩ ?_
      rw [hS]
      exact ⟨rfl, rfl, rfl⟩
    · have hs := ik 1 (by decide) c22
      have hS : (sem n v nd i).1 j = decide (v j (nC nd i) = nL nd i) := by rw [sem_leaf (by omega), hs]; rfl
      refine z_iload_n dX10_isSo_62 rfl ?_
      refine z_aload_n dX10_isSo_63 rfl ?_
      refine s_getr f_Mo_30 dX10_isSo_64 (by assumption) rfl ?_
      refine z_iload_n dX10_isSo_67 rfl ?_
      refine s_iald dX10_isSo_68 a7 (vp_in_nI (by omega) (by decide)) ?_
      rw [nI_clamp (by omega), d3]
      refine z_icmp_ne 76 dX10_isSo_69 (by decide) (fun c69 => ?_) (fun c69 => ?_)
      · rw [decide_eq_false (fun z => c69 (by rw [z]))] at hS
        refine z_iconst 0 dX10_isSo_76 rfl ?_
        refine z_ireturn dX10_isSo_77 rfl rfl ⟨Nat.le_refl _, Nat.le_refl _⟩ ?_
        rw [hS]
        exact ⟨rfl, rfl, rfl⟩
      · rw [decide_eq_true ((nI_eq (by omega) (by omega)).mp c69)] at hS
        refine z_iconst 1 dX10_isSo_72 rfl ?_
        refine z_goto 77 dX10_isSo_73 (by decide) ?_
        refine z_ireturn dX10_isSo_77 rfl rfl ⟨Nat.le_refl _, Nat.le_refl _⟩ ?_
        rw [hS]
        exact ⟨rfl, rfl, rfl⟩
    · have hs := ik 2 (by decide) c22
      have hS : (sem n v nd i).1 j = decide (v j (nC nd i) < nL nd i) := by rw [sem_leaf (by omega), hs]; rfl
      refine z_iload_n dX10_isSo_78 rfl ?_
      refine z_aload_n dX10_isSo_79 rfl ?_
      refine s_getr f_Mo_30 dX10_isSo_80 (by assumption) rfl ?_
      refine z_iload_n dX10_isSo_83 rfl ?_
      refine s_iald dX10_isSo_84 a7 (vp_in_nI (by omega) (by decide)) ?_
      rw [nI_clamp (by omega), d3]
      refine z_icmp_ge 92 dX10_isSo_85 (by decide) (fun c85 => ?_) (fun c85 => ?_)
      · rw [decide_eq_false (by have := i_le (by omega) (by omega) c85; omega)] at hS
        refine z_iconst 0 dX10_isSo_92 rfl ?_
        refine z_ireturn dX10_isSo_93 rfl rfl ⟨Nat.le_refl _, Nat.le_refl _⟩ ?_
        rw [hS]
        exact ⟨rfl, rfl, rfl⟩
      · rw [decide_eq_true (i_nle (by omega) c85)] at hS
        refine z_iconst 1 dX10_isSo_88 rfl ?_
        refine z_goto 93 dX10_isSo_89 (by decide) ?_
        refine z_ireturn dX10_isSo_93 rfl rfl ⟨Nat.le_refl _, Nat.le_refl _⟩ ?_
        rw [hS]
        exact ⟨rfl, rfl, rfl⟩
    · have hs := ik 3 (by decide) c22
      have hS : (sem n v nd i).1 j = decide (nL nd i ≤ v j (nC nd i) ∧ v j (nC nd i) ≤ nH nd i) := by rw [sem_leaf (by omega), hs]; rfl
      refine z_iload_n dX10_isSo_94 rfl ?_
      refine z_aload_n dX10_isSo_95 rfl ?_
      refine s_getr f_Mo_30 dX10_isSo_96 (by assumption) rfl ?_
      refine z_iload_n dX10_isSo_99 rfl ?_
      refine s_iald dX10_isSo_100 a7 (vp_in_nI (by omega) (by decide)) ?_
      rw [nI_clamp (by omega), d3]
      refine z_icmp_lt 118 dX10_isSo_101 (by decide) (fun c101 => ?_) (fun c101 => ?_)
      · rw [decide_eq_false (by have := i_lt (by omega) (by omega) c101; omega)] at hS
        refine z_iconst 0 dX10_isSo_118 rfl ?_
        refine z_ireturn dX10_isSo_119 rfl rfl ⟨Nat.le_refl _, Nat.le_refl _⟩ ?_
        rw [hS]
        exact ⟨rfl, rfl, rfl⟩
      · refine z_iload_n dX10_isSo_104 rfl ?_
        refine z_aload_n dX10_isSo_105 rfl ?_
        refine s_getr f_Mo_33 dX10_isSo_106 (by assumption) rfl ?_
        refine z_iload_n dX10_isSo_109 rfl ?_
        refine s_iald dX10_isSo_110 a8 (vp_in_nI (by omega) (by decide)) ?_
        rw [nI_clamp (by omega), d4]
        refine z_icmp_gt 118 dX10_isSo_111 (by decide) (fun c111 => ?_) (fun c111 => ?_)
        · rw [decide_eq_false (by have := i_lt (by omega) (by omega) c111; omega)] at hS
          refine z_iconst 0 dX10_isSo_118 rfl ?_
          refine z_ireturn dX10_isSo_119 rfl rfl ⟨Nat.le_refl _, Nat.le_refl _⟩ ?_
          rw [hS]
          exact ⟨rfl, rfl, rfl⟩
        · rw [decide_eq_true ⟨i_nlt (by omega) c101, i_nlt (by omega) c111⟩] at hS
          refine z_iconst 1 dX10_isSo_114 rfl ?_
          refine z_goto 119 dX10_isSo_115 (by decide) ?_
          refine z_ireturn dX10_isSo_119 rfl rfl ⟨Nat.le_refl _, Nat.le_refl _⟩ ?_
          rw [hS]
          exact ⟨rfl, rfl, rfl⟩
    · have hs := ik 4 (by decide) c22
      have hO := hO (by omega)
      have hS : (sem n v nd i).1 j = !(sem n v nd (nO nd i)).1 j := by rw [sem_not hk hi hs]; rfl
      refine z_aload_n dX10_isSo_120 rfl ?_
      refine z_aload_n dX10_isSo_121 rfl ?_
      refine s_getr f_Mo_36 dX10_isSo_122 (by assumption) rfl ?_
      refine z_iload_n dX10_isSo_125 rfl ?_
      refine s_iald dX10_isSo_126 a9 (vp_in_nI (by omega) (by decide)) ?_
      rw [nI_clamp (by omega), d5 (by omega)]
      refine z_iload_n dX10_isSo_127 rfl ?_
      refine s_callV1 l_Mo_146 (ih (nO nd i) hO (by omega)) m0 dX10_isSo_128 rfl rfl (Nat.le_of_ble_eq_true rfl) (rrm (by omega) (by decide)) ?_
      refine z_if_ne 138 dX10_isSo_131 (by decide) (fun c131 => ?_) (fun c131 => ?_)
      · rw [zo_ne0.mp c131] at hS
        refine z_iconst 0 dX10_isSo_138 rfl ?_
        refine z_ireturn dX10_isSo_139 rfl rfl ⟨Nat.le_refl _, Nat.le_refl _⟩ ?_
        rw [hS]
        exact ⟨rfl, rfl, rfl⟩
      · rw [zo_eq0.mp c131] at hS
        refine z_iconst 1 dX10_isSo_134 rfl ?_
        refine z_goto 139 dX10_isSo_135 (by decide) ?_
        refine z_ireturn dX10_isSo_139 rfl rfl ⟨Nat.le_refl _, Nat.le_refl _⟩ ?_
        rw [hS]
        exact ⟨rfl, rfl, rfl⟩
    · have hs := ik 5 (by decide) c22
      have hO := hO (by omega)
      have hT := hT (by omega)
      have hS : (sem n v nd i).1 j = ((sem n v nd (nO nd i)).1 j && (sem n v nd (nT nd i)).1 j) := by rw [sem_join hk hi (by omega), hs]; rfl
      refine z_aload_n dX10_isSo_140 rfl ?_
      refine z_aload_n dX10_isSo_141 rfl ?_
      refine s_getr f_Mo_36 dX10_isSo_142 (by assumption) rfl ?_
      refine z_iload_n dX10_isSo_145 rfl ?_
      refine s_iald dX10_isSo_146 a9 (vp_in_nI (by omega) (by decide)) ?_
      rw [nI_clamp (by omega), d5 (by omega)]
      refine z_iload_n dX10_isSo_147 rfl ?_
      refine s_callV1 l_Mo_146 (ih (nO nd i) hO (by omega)) m0 dX10_isSo_148 rfl rfl (Nat.le_of_ble_eq_true rfl) (rrm (by omega) (by decide)) ?_
      refine z_if_eq 172 dX10_isSo_151 (by decide) (fun c151 => ?_) (fun c151 => ?_)
      · rw [zo_eq0.mp c151] at hS
        refine z_iconst 0 dX10_isSo_172 rfl ?_
        refine z_ireturn dX10_isSo_173 rfl rfl ⟨Nat.le_refl _, Nat.le_refl _⟩ ?_
        rw [hS]
        exact ⟨rfl, rfl, rfl⟩
      · rw [zo_ne0.mp c151] at hS
        refine z_aload_n dX10_isSo_154 rfl ?_
        refine z_aload_n dX10_isSo_155 rfl ?_
        refine s_getr f_Mo_39 dX10_isSo_156 (by assumption) rfl ?_
        refine z_iload_n dX10_isSo_159 rfl ?_
        refine s_iald dX10_isSo_160 a10 (vp_in_nI (by omega) (by decide)) ?_
        rw [nI_clamp (by omega), d6 (by omega)]
        refine z_iload_n dX10_isSo_161 rfl ?_
        refine s_callV1 l_Mo_146 (ih (nT nd i) hT (by omega)) m0 dX10_isSo_162 rfl rfl (Nat.le_of_ble_eq_true rfl) (rrm (by omega) (by decide)) ?_
        refine z_if_eq 172 dX10_isSo_165 (by decide) (fun c165 => ?_) (fun c165 => ?_)
        · rw [zo_eq0.mp c165] at hS
          refine z_iconst 0 dX10_isSo_172 rfl ?_
          refine z_ireturn dX10_isSo_173 rfl rfl ⟨Nat.le_refl _, Nat.le_refl _⟩ ?_
          rw [hS]
          exact ⟨rfl, rfl, rfl⟩
        · rw [zo_ne0.mp c165] at hS
          refine z_iconst 1 dX10_isSo_168 rfl ?_
          refine z_goto 173 dX10_isSo_169 (by decide) ?_
          refine z_ireturn dX10_isSo_173 rfl rfl ⟨Nat.le_refl _, Nat.le_refl _⟩ ?_
          rw [hS]
          exact ⟨rfl, rfl, rfl⟩
    · have hs : nS nd i = 6 := by
        rcases Nat.lt_or_ge (nS nd i) 6 with z | z
        · exact absurd rfl (c22 _ (Nat.zero_le _) z)
        · omega
      have hO := hO (by omega)
      have hT := hT (by omega)
      have hS : (sem n v nd i).1 j = ((sem n v nd (nO nd i)).1 j || (sem n v nd (nT nd i)).1 j) := by rw [sem_join hk hi (by omega), hs]; rfl
      refine z_aload_n dX10_isSo_174 rfl ?_
      refine z_aload_n dX10_isSo_175 rfl ?_
      refine s_getr f_Mo_36 dX10_isSo_176 (by assumption) rfl ?_
      refine z_iload_n dX10_isSo_179 rfl ?_
      refine s_iald dX10_isSo_180 a9 (vp_in_nI (by omega) (by decide)) ?_
      rw [nI_clamp (by omega), d5 (by omega)]
      refine z_iload_n dX10_isSo_181 rfl ?_
      refine s_callV1 l_Mo_146 (ih (nO nd i) hO (by omega)) m0 dX10_isSo_182 rfl rfl (Nat.le_of_ble_eq_true rfl) (rrm (by omega) (by decide)) ?_
      refine z_if_ne 202 dX10_isSo_185 (by decide) (fun c185 => ?_) (fun c185 => ?_)
      · rw [zo_ne0.mp c185] at hS
        refine z_iconst 1 dX10_isSo_202 rfl ?_
        refine z_goto 207 dX10_isSo_203 (by decide) ?_
        refine z_ireturn dX10_isSo_207 rfl rfl ⟨Nat.le_refl _, Nat.le_refl _⟩ ?_
        rw [hS]
        exact ⟨rfl, rfl, rfl⟩
      · rw [zo_eq0.mp c185] at hS
        refine z_aload_n dX10_isSo_188 rfl ?_
        refine z_aload_n dX10_isSo_189 rfl ?_
        refine s_getr f_Mo_39 dX10_isSo_190 (by assumption) rfl ?_
        refine z_iload_n dX10_isSo_193 rfl ?_
        refine s_iald dX10_isSo_194 a10 (vp_in_nI (by omega) (by decide)) ?_
        rw [nI_clamp (by omega), d6 (by omega)]
        refine z_iload_n dX10_isSo_195 rfl ?_
        refine s_callV1 l_Mo_146 (ih (nT nd i) hT (by omega)) m0 dX10_isSo_196 rfl rfl (Nat.le_of_ble_eq_true rfl) (rrm (by omega) (by decide)) ?_
        refine z_if_eq 206 dX10_isSo_199 (by decide) (fun c199 => ?_) (fun c199 => ?_)
        · rw [zo_eq0.mp c199] at hS
          refine z_iconst 0 dX10_isSo_206 rfl ?_
          refine z_ireturn dX10_isSo_207 rfl rfl ⟨Nat.le_refl _, Nat.le_refl _⟩ ?_
          rw [hS]
          exact ⟨rfl, rfl, rfl⟩
        · rw [zo_ne0.mp c199] at hS
          refine z_iconst 1 dX10_isSo_202 rfl ?_
          refine z_goto 207 dX10_isSo_203 (by decide) ?_
          refine z_ireturn dX10_isSo_207 rfl rfl ⟨Nat.le_refl _, Nat.le_refl _⟩ ?_
          rw [hS]
          exact ⟨rfl, rfl, rfl⟩
theorem C_Mo_resultMany (hM : tMo sh m) (hQ : mQ S m n v q N nd stk) (hi : i < N) : zD G m_Mo_resultMany (i + 3) sh [.ref m, .int (nI (60 * q + i))] S (some (.int (nI (fb_ct (sem n v nd i).1 n)))) S := by
  obtain ⟨m0, a1, a2, a3, a4, a5, a6, a7, a8, a9, a10, a11, a12, a13, a14, a15, a16, a22⟩ := id hM
  have hg := hQ.1
  have hn := hQ.2.1
  refine s_methD 2 ⟨p_Mo, rfl, Nat.le_of_ble_eq_true rfl⟩ rfl (fun sz => ?_)
  have loop : ∀ d r, n - r = d → r ≤ n → zW G m_Mo_resultMany (zRm (i + 3) 0 0) (zFm G (zQe (some (.int (nI (fb_ct (sem n v nd i).1 n)))) (zhp sh S) sz) 0 0) 0 0 4 [some (.ref m), some (.int (nI (60 * q + i))), some (.int (nI (fb_ct (sem n v nd i).1 r))), some (.int (nI r))] [] (zhp sh S) sz := by
    intro d
    induction d with
    | zero =>
      intro r h1 h2
      have hr : r = n := by omega
      subst hr
      refine z_iload_n dX10_resultMany_4 rfl ?_
      refine z_aload_n dX10_resultMany_5 rfl ?_
      refine s_getr f_Mo_11 dX10_resultMany_6 (by assumption) rfl ?_
      refine z_sipush 480 dX10_resultMany_9 (by decide) ?_
      refine s_iald dX10_resultMany_12 (by assumption) (by first | assumption | exact vp_in_nI (by omega) (by omega) | (unfold vp_in; decide)) ?_
      rw [show (480 : Int32).toNatClampNeg = 480 from rfl, hg.1]
      refine z_icmp_ge 39 dX10_resultMany_13 (by decide) (fun c13 => ?_) (fun c13 => ?_)
      · refine z_iload_n dX10_resultMany_39 rfl ?_
        refine z_ireturn dX10_resultMany_40 rfl rfl ⟨Nat.le_refl _, Nat.le_refl _⟩ ?_
        exact ⟨rfl, rfl, rfl⟩
      · exact absurd (nI_le (Nat.le_refl _) (by omega)) c13
    | succ d ih =>
      intro r h1 h2
      have ih2 := ih (r + 1) (by omega) (by omega)
      rw [fb_ct_succ] at ih2
      refine z_iload_n dX10_resultMany_4 rfl ?_
      refine z_aload_n dX10_resultMany_5 rfl ?_
      refine s_getr f_Mo_11 dX10_resultMany_6 (by assumption) rfl ?_
      refine z_sipush 480 dX10_resultMany_9 (by decide) ?_
      refine s_iald dX10_resultMany_12 (by assumption) (by first | assumption | exact vp_in_nI (by omega) (by omega) | (unfold vp_in; decide)) ?_
      rw [show (480 : Int32).toNatClampNeg = 480 from rfl, hg.1]
      refine z_icmp_ge 39 dX10_resultMany_13 (by decide) (fun c13 => ?_) (fun c13 => ?_)
      · exact absurd c13 (nI_ge (by omega) (by omega))
      · refine z_iload_n dX10_resultMany_16 rfl ?_
        refine z_aload_n dX10_resultMany_17 rfl ?_
        refine z_iload_n dX10_resultMany_18 rfl ?_
        refine z_iload_n dX10_resultMany_19 rfl ?_
        refine s_callV1 l_Mo_146 (C_Mo_isSo hM hQ (by omega) i hi) m0 dX10_resultMany_20 rfl rfl (Nat.le_of_ble_eq_true rfl) (rrm (by omega) (by decide)) ?_
        refine z_if_eq 30 dX10_resultMany_23 (by decide) (fun c23 => ?_) (fun c23 => ?_)
        · rw [zo_eq0.mp c23] at ih2
          refine z_iconst 0 dX10_resultMany_30 rfl ?_
          refine z_iadd dX10_resultMany_31 ?_
          refine z_istore_n (lv' := [_, _, _, _]) dX10_resultMany_32 (by decide) rfl ?_
          refine z_iinc (lv' := [_, _, _, _]) 1 dX10_resultMany_33 rfl (by decide) rfl rfl ?_
          refine z_goto 4 dX10_resultMany_36 (by decide) ?_
          rw [nI_1]
          first
            | (rw [nI_1]; exact ih2)
            | (rw [Int32.add_zero]; exact ih2)
            | skip
        · rw [zo_ne0.mp c23] at ih2
          refine z_iconst 1 dX10_resultMany_26 rfl ?_
          refine z_goto 31 dX10_resultMany_27 (by decide) ?_
          refine z_iadd dX10_resultMany_31 ?_
          refine z_istore_n (lv' := [_, _, _, _]) dX10_resultMany_32 (by decide) rfl ?_
          refine z_iinc (lv' := [_, _, _, _]) 1 dX10_resultMany_33 rfl (by decide) rfl rfl ?_
          refine z_goto 4 dX10_resultMany_36 (by decide) ?_
          rw [nI_1]
          first
            | (rw [nI_1]; exact ih2)
            | (rw [Int32.add_zero]; exact ih2)
            | skip
  refine z_iconst 0 dX10_resultMany_0 rfl ?_
  refine z_istore_n (lv' := [_, _, _, _]) dX10_resultMany_1 (by decide) rfl ?_
  refine z_iconst 0 dX10_resultMany_2 rfl ?_
  refine z_istore_n (lv' := [_, _, _, _]) dX10_resultMany_3 (by decide) rfl ?_
  exact loop n 0 rfl (Nat.zero_le _)
theorem C_Mo_resultRuns (hM : tMo sh m) (hQ : mQ S m n v q N nd stk) (hi : i < N) : zD G m_Mo_resultRuns (i + 3) sh [.ref m, .int (nI (60 * q + i))] S (some (.int (nI (runsN (sem n v nd i).1 n)))) S := by
  obtain ⟨m0, a1, a2, a3, a4, a5, a6, a7, a8, a9, a10, a11, a12, a13, a14, a15, a16, a22⟩ := id hM
  have hg := hQ.1
  have hn := hQ.2.1
  refine s_methD 2 ⟨p_Mo, rfl, Nat.le_of_ble_eq_true rfl⟩ rfl (fun sz => ?_)
  have loop : ∀ d r, n - r = d → r ≤ n → zW G m_Mo_resultRuns (zRm (i + 3) 0 0) (zFm G (zQe (some (.int (nI (runsN (sem n v nd i).1 n)))) (zhp sh S) sz) 0 0) 0 0 4 [some (.ref m), some (.int (nI (60 * q + i))), some (.int (nI (fb_ct (chg (sem n v nd i).1) r))), some (.int (nI r))] [] (zhp sh S) sz := by
    intro d
    induction d with
    | zero =>
      intro r h1 h2
      have hr : r = n := by omega
      subst hr
      refine z_iload_n dX10_resultRuns_4 rfl ?_
      refine z_aload_n dX10_resultRuns_5 rfl ?_
      refine s_getr f_Mo_11 dX10_resultRuns_6 (by assumption) rfl ?_
      refine z_sipush 480 dX10_resultRuns_9 (by decide) ?_
      refine s_iald dX10_resultRuns_12 (by assumption) (by first | assumption | exact vp_in_nI (by omega) (by omega) | (unfold vp_in; decide)) ?_
      rw [show (480 : Int32).toNatClampNeg = 480 from rfl, hg.1]
      refine z_icmp_ge 51 dX10_resultRuns_13 (by decide) (fun c13 => ?_) (fun c13 => ?_)
      · refine z_iload_n dX10_resultRuns_51 rfl ?_
        refine z_ireturn dX10_resultRuns_52 rfl rfl ⟨Nat.le_refl _, Nat.le_refl _⟩ ?_
        exact ⟨rfl, rfl, rfl⟩
      · exact absurd (nI_le (Nat.le_refl _) (by omega)) c13
    | succ d ih =>
      intro r h1 h2
      have ih2 := ih (r + 1) (by omega) (by omega)
      rw [fb_ct_succ] at ih2
      refine z_iload_n dX10_resultRuns_4 rfl ?_
      refine z_aload_n dX10_resultRuns_5 rfl ?_
      refine s_getr f_Mo_11 dX10_resultRuns_6 (by assumption) rfl ?_
      refine z_sipush 480 dX10_resultRuns_9 (by decide) ?_
      refine s_iald dX10_resultRuns_12 (by assumption) (by first | assumption | exact vp_in_nI (by omega) (by omega) | (unfold vp_in; decide)) ?_
      rw [show (480 : Int32).toNatClampNeg = 480 from rfl, hg.1]
      refine z_icmp_ge 51 dX10_resultRuns_13 (by decide) (fun c13 => ?_) (fun c13 => ?_)
      · exact absurd c13 (nI_ge (by omega) (by omega))
      · refine z_iload_n dX10_resultRuns_16 rfl ?_
        refine z_iload_n dX10_resultRuns_17 rfl ?_
        refine z_if_eq 38 dX10_resultRuns_18 (by decide) (fun c18 => ?_) (fun c18 => ?_)
        · have hr0 : r = 0 := (nI_eq (b := 0) (by omega) (by decide)).mp c18
          have hch : chg (sem n v nd i).1 r = true := by unfold chg; rw [decide_eq_true hr0]; rfl
          refine z_iconst 1 dX10_resultRuns_38 rfl ?_
          refine z_goto 43 dX10_resultRuns_39 (by decide) ?_
          refine z_iadd dX10_resultRuns_43 ?_
          refine z_istore_n (lv' := [_, _, _, _]) dX10_resultRuns_44 (by decide) rfl ?_
          refine z_iinc (lv' := [_, _, _, _]) 1 dX10_resultRuns_45 rfl (by decide) rfl rfl ?_
          refine z_goto 4 dX10_resultRuns_48 (by decide) ?_
          rw [hch] at ih2
          rw [nI_1]
          first
            | (rw [nI_1]; exact ih2)
            | (rw [Int32.add_zero]; exact ih2)
            | skip
        · have hr0 : ¬ r = 0 := fun z => c18 (by rw [z]; rfl)
          obtain ⟨r', rfl⟩ : ∃ r', r = r' + 1 := ⟨r - 1, by omega⟩
          refine z_aload_n dX10_resultRuns_21 rfl ?_
          refine z_iload_n dX10_resultRuns_22 rfl ?_
          refine z_iload_n dX10_resultRuns_23 rfl ?_
          refine s_callV1 l_Mo_146 (C_Mo_isSo hM hQ (by omega) i hi) m0 dX10_resultRuns_24 rfl rfl (Nat.le_of_ble_eq_true rfl) (rrm (by omega) (by decide)) ?_
          refine z_aload_n dX10_resultRuns_27 rfl ?_
          refine z_iload_n dX10_resultRuns_28 rfl ?_
          refine z_iload_n dX10_resultRuns_29 rfl ?_
          refine z_iconst 1 dX10_resultRuns_30 rfl ?_
          refine z_isub dX10_resultRuns_31 ?_
          rw [nI_pred]
          refine s_callV1 l_Mo_146 (C_Mo_isSo hM hQ (by omega) i hi) m0 dX10_resultRuns_32 rfl rfl (Nat.le_of_ble_eq_true rfl) (rrm (by omega) (by decide)) ?_
          refine z_icmp_eq 42 dX10_resultRuns_35 (by decide) (fun c35 => ?_) (fun c35 => ?_)
          · have hch : chg (sem n v nd i).1 (r' + 1) = false := by
              unfold chg
              rw [decide_eq_false hr0, Nat.add_sub_cancel, zo_inj.mp c35]
              simp
            refine z_iconst 0 dX10_resultRuns_42 rfl ?_
            refine z_iadd dX10_resultRuns_43 ?_
            refine z_istore_n (lv' := [_, _, _, _]) dX10_resultRuns_44 (by decide) rfl ?_
            refine z_iinc (lv' := [_, _, _, _]) 1 dX10_resultRuns_45 rfl (by decide) rfl rfl ?_
            refine z_goto 4 dX10_resultRuns_48 (by decide) ?_
            rw [hch] at ih2
            rw [nI_1]
            first
              | (rw [nI_1]; exact ih2)
              | (rw [Int32.add_zero]; exact ih2)
              | skip
          · have hch : chg (sem n v nd i).1 (r' + 1) = true := by
              unfold chg
              rw [Nat.add_sub_cancel, decide_eq_false hr0, Bool.false_or]
              exact bne_iff_ne.mpr (fun z => c35 (zo_inj.mpr z))
            refine z_iconst 1 dX10_resultRuns_38 rfl ?_
            refine z_goto 43 dX10_resultRuns_39 (by decide) ?_
            refine z_iadd dX10_resultRuns_43 ?_
            refine z_istore_n (lv' := [_, _, _, _]) dX10_resultRuns_44 (by decide) rfl ?_
            refine z_iinc (lv' := [_, _, _, _]) 1 dX10_resultRuns_45 rfl (by decide) rfl rfl ?_
            refine z_goto 4 dX10_resultRuns_48 (by decide) ?_
            rw [hch] at ih2
            rw [nI_1]
            first
              | (rw [nI_1]; exact ih2)
              | (rw [Int32.add_zero]; exact ih2)
              | skip
  refine z_iconst 0 dX10_resultRuns_0 rfl ?_
  refine z_istore_n (lv' := [_, _, _, _]) dX10_resultRuns_1 (by decide) rfl ?_
  refine z_iconst 0 dX10_resultRuns_2 rfl ?_
  refine z_istore_n (lv' := [_, _, _, _]) dX10_resultRuns_3 (by decide) rfl ?_
  exact loop n 0 rfl (Nat.zero_le _)
theorem C_Mo_rowAt {y : Int32} (hM : tMo sh m) (hQ : mQ S m n v q N nd stk) (hi : i < N) : zD G m_Mo_rowAt (i + 3) sh [.ref m, .int (nI (60 * q + i)), .int y] S (some (.int (kOne (sem n v nd i).1 n y))) S := by
  obtain ⟨m0, a1, a2, a3, a4, a5, a6, a7, a8, a9, a10, a11, a12, a13, a14, a15, a16, a22⟩ := id hM
  have hg := hQ.1
  have hn := hQ.2.1
  refine s_methD 2 ⟨p_Mo, rfl, Nat.le_of_ble_eq_true rfl⟩ rfl (fun sz => ?_)
  have loop : ∀ d r, n - r = d → r ≤ n → (∀ p, p < r → (sem n v nd i).1 p = true → ¬ nI (fb_ct (sem n v nd i).1 p) = y) → zW G m_Mo_rowAt (zRm (i + 3) 0 0) (zFm G (zQe (some (.int (kOne (sem n v nd i).1 n y))) (zhp sh S) sz) 0 0) 0 0 5 [some (.ref m), some (.int (nI (60 * q + i))), some (.int y), some (.int (y - nI (fb_ct (sem n v nd i).1 r))), some (.int (nI r))] [] (zhp sh S) sz := by
    intro d
    induction d with
    | zero =>
      intro r h1 h2 h3
      have hr : r = n := by omega
      subst hr
      refine z_iload dX10_rowAt_5 rfl ?_
      refine z_aload_n dX10_rowAt_7 rfl ?_
      refine s_getr f_Mo_11 dX10_rowAt_8 (by assumption) rfl ?_
      refine z_sipush 480 dX10_rowAt_11 (by decide) ?_
      refine s_iald dX10_rowAt_14 (by assumption) (by first | assumption | exact vp_in_nI (by omega) (by omega) | (unfold vp_in; decide)) ?_
      rw [show (480 : Int32).toNatClampNeg = 480 from rfl, hg.1]
      refine z_icmp_ge 44 dX10_rowAt_15 (by decide) (fun c15 => ?_) (fun c15 => ?_)
      · refine z_bipush (-5) dX10_rowAt_44 (by decide) ?_
        refine z_ireturn dX10_rowAt_46 rfl rfl ⟨Nat.le_refl _, Nat.le_refl _⟩ ?_
        rw [kOne_none h3]
        exact ⟨rfl, rfl, rfl⟩
      · exact absurd (nI_le (Nat.le_refl _) (by omega)) c15
    | succ d ih =>
      intro r h1 h2 h3
      have e := fb_ct_succ (sem n v nd i).1 r
      refine z_iload dX10_rowAt_5 rfl ?_
      refine z_aload_n dX10_rowAt_7 rfl ?_
      refine s_getr f_Mo_11 dX10_rowAt_8 (by assumption) rfl ?_
      refine z_sipush 480 dX10_rowAt_11 (by decide) ?_
      refine s_iald dX10_rowAt_14 (by assumption) (by first | assumption | exact vp_in_nI (by omega) (by omega) | (unfold vp_in; decide)) ?_
      rw [show (480 : Int32).toNatClampNeg = 480 from rfl, hg.1]
      refine z_icmp_ge 44 dX10_rowAt_15 (by decide) (fun c15 => ?_) (fun c15 => ?_)
      · exact absurd c15 (nI_ge (by omega) (by omega))
      · refine z_aload_n dX10_rowAt_18 rfl ?_
        refine z_iload_n dX10_rowAt_19 rfl ?_
        refine z_iload dX10_rowAt_20 rfl ?_
        refine s_callV1 l_Mo_146 (C_Mo_isSo hM hQ (by omega) i hi) m0 dX10_rowAt_22 rfl rfl (Nat.le_of_ble_eq_true rfl) (rrm (by omega) (by decide)) ?_
        refine z_if_eq 38 dX10_rowAt_25 (by decide) (fun c25 => ?_) (fun c25 => ?_)
        · have hf := zo_eq0.mp c25
          rw [hf] at e
          refine z_iinc (lv' := [_, _, _, _, _]) 1 dX10_rowAt_38 rfl (by decide) rfl rfl ?_
          refine z_goto 5 dX10_rowAt_41 (by decide) ?_
          rw [nI_1]
          first
            | (rw [sub_m1, show fb_ct (sem n v nd i).1 r + 1 = fb_ct (sem n v nd i).1 (r + 1) from e.symm]
               exact ih (r + 1) (by omega) (by omega) (fun p hp hfp => if ep : p = r then by rw [ep]; exact fun z => hy z.symm else h3 p (by omega) hfp))
            | (rw [show fb_ct (sem n v nd i).1 r = fb_ct (sem n v nd i).1 (r + 1) from e.symm]
               exact ih (r + 1) (by omega) (by omega) (fun p hp hfp => if ep : p = r then by rw [ep, hf] at hfp; cases hfp else h3 p (by omega) hfp))
            | skip
        · have hf := zo_ne0.mp c25
          rw [hf] at e
          refine z_iload_n dX10_rowAt_28 rfl ?_
          refine z_if_ne 35 dX10_rowAt_29 (by decide) (fun c29 => ?_) (fun c29 => ?_)
          · have hy : ¬ y = nI (fb_ct (sem n v nd i).1 r) := fun z => c29 (sub_0.mpr z)
            refine z_iinc (lv' := [_, _, _, _, _]) (-1) dX10_rowAt_35 rfl (by decide) rfl rfl ?_
            refine z_iinc (lv' := [_, _, _, _, _]) 1 dX10_rowAt_38 rfl (by decide) rfl rfl ?_
            refine z_goto 5 dX10_rowAt_41 (by decide) ?_
            rw [nI_1]
            first
              | (rw [sub_m1, show fb_ct (sem n v nd i).1 r + 1 = fb_ct (sem n v nd i).1 (r + 1) from e.symm]
                 exact ih (r + 1) (by omega) (by omega) (fun p hp hfp => if ep : p = r then by rw [ep]; exact fun z => hy z.symm else h3 p (by omega) hfp))
              | (rw [show fb_ct (sem n v nd i).1 r = fb_ct (sem n v nd i).1 (r + 1) from e.symm]
                 exact ih (r + 1) (by omega) (by omega) (fun p hp hfp => if ep : p = r then by rw [ep, hf] at hfp; cases hfp else h3 p (by omega) hfp))
              | skip
          · have hy := sub_0.mp c29
            refine z_iload dX10_rowAt_32 rfl ?_
            refine z_ireturn dX10_rowAt_34 rfl rfl ⟨Nat.le_refl _, Nat.le_refl _⟩ ?_
            rw [kOne_some (p := r) (by omega) hf hy.symm (by omega)]
            exact ⟨rfl, rfl, rfl⟩
  refine z_iload_n dX10_rowAt_0 rfl ?_
  refine z_istore_n (lv' := [_, _, _, _, _]) dX10_rowAt_1 (by decide) rfl ?_
  refine z_iconst 0 dX10_rowAt_2 rfl ?_
  refine z_istore (lv' := [_, _, _, _, _]) dX10_rowAt_3 (by decide) rfl ?_
  have hx := loop n 0 rfl (Nat.zero_le _) (fun p hp => absurd hp (Nat.not_lt_zero _))
  rw [show y - nI (fb_ct (sem n v nd i).1 0) = y from Int32.sub_zero y] at hx
  exact hx
theorem C_Mo_deepOf (hM : tMo sh m) (hQ : mQ S m n v q N nd stk) : ∀ i, i < N → zD G m_Mo_deepOf (i + 2) sh [.ref m, .int (nI (60 * q + i))] S (some (.int (nI (sem n v nd i).2.2))) S := by
  obtain ⟨m0, a1, a2, a3, a4, a5, a6, a7, a8, a9, a10, a11, a12, a13, a14, a15, a16, a22⟩ := id hM
  obtain ⟨hg, hn, hv, hnd, hq, hw⟩ := hQ
  obtain ⟨w0, wN, wst0, wstN, wlen, wok⟩ := id hw
  have hk := fun i hi => kid_lt wst0 (fun i hi => (wok i hi).1) (i := i) hi
  have hdp := sem_dep (n := n) (v := v) hk
  intro i
  induction i using Nat.strongRecOn with
  | _ i ih =>
    intro hi
    obtain ⟨d1, d2, d3, d4, d5, d6⟩ := hnd i hi
    have s7 := hw.s7 hi
    have hO := (hk i hi).1
    have hT := (hk i hi).2
    refine s_methD 2 ⟨p_Mo, rfl, Nat.le_of_ble_eq_true rfl⟩ rfl (fun sz => ?_)
    refine z_aload_n dX10_deepOf_0 rfl ?_
    refine s_getr f_Mo_24 dX10_deepOf_1 (by assumption) rfl ?_
    refine z_iload_n dX10_deepOf_4 rfl ?_
    refine s_iald dX10_deepOf_5 a5 (vp_in_nI (by omega) (by decide)) ?_
    rw [nI_clamp (by omega), d1]
    refine z_iconst 3 dX10_deepOf_6 rfl ?_
    refine z_icmp_gt 12 dX10_deepOf_7 (by decide) (fun c7 => ?_) (fun c7 => ?_)
    · have hs := i_lt (a := 3) (by decide) (by omega) c7
      have hO := hO (by omega)
      have dO := hdp _ (show nO nd i < N by omega)
      refine z_aload_n dX10_deepOf_12 rfl ?_
      refine z_aload_n dX10_deepOf_13 rfl ?_
      refine s_getr f_Mo_36 dX10_deepOf_14 (by assumption) rfl ?_
      refine z_iload_n dX10_deepOf_17 rfl ?_
      refine s_iald dX10_deepOf_18 a9 (vp_in_nI (by omega) (by decide)) ?_
      rw [nI_clamp (by omega), d5 (by omega)]
      refine s_callV1 l_Mo_160 (ih (nO nd i) hO (by omega)) m0 dX10_deepOf_19 rfl rfl (Nat.le_of_ble_eq_true rfl) (rrm (by omega) (by decide)) ?_
      refine z_istore_n (lv' := [_, _, _, _]) dX10_deepOf_22 (by decide) rfl ?_
      refine z_aload_n dX10_deepOf_23 rfl ?_
      refine s_getr f_Mo_24 dX10_deepOf_24 (by assumption) rfl ?_
      refine z_iload_n dX10_deepOf_27 rfl ?_
      refine s_iald dX10_deepOf_28 a5 (vp_in_nI (by omega) (by decide)) ?_
      rw [nI_clamp (by omega), d1]
      refine z_iconst 4 dX10_deepOf_29 rfl ?_
      refine z_icmp_ne 37 dX10_deepOf_30 (by decide) (fun c30 => ?_) (fun c30 => ?_)
      · have h4 : ¬ nS nd i = 4 := fun z => c30 (by rw [z]; rfl)
        have hT := hT (by omega)
        have dT := hdp _ (show nT nd i < N by omega)
        have hS : (sem n v nd i).2.2 = max (sem n v nd (nO nd i)).2.2 (sem n v nd (nT nd i)).2.2 + 1 := by rw [sem_join hk hi (by omega)]; rfl
        refine z_aload_n dX10_deepOf_37 rfl ?_
        refine z_aload_n dX10_deepOf_38 rfl ?_
        refine s_getr f_Mo_39 dX10_deepOf_39 (by assumption) rfl ?_
        refine z_iload_n dX10_deepOf_42 rfl ?_
        refine s_iald dX10_deepOf_43 a10 (vp_in_nI (by omega) (by decide)) ?_
        rw [nI_clamp (by omega), d6 (by omega)]
        refine s_callV1 l_Mo_160 (ih (nT nd i) hT (by omega)) m0 dX10_deepOf_44 rfl rfl (Nat.le_of_ble_eq_true rfl) (rrm (by omega) (by decide)) ?_
        refine z_istore_n (lv' := [_, _, _, _]) dX10_deepOf_47 (by decide) rfl ?_
        refine z_iconst 1 dX10_deepOf_48 rfl ?_
        refine z_iload_n dX10_deepOf_49 rfl ?_
        refine z_iload_n dX10_deepOf_50 rfl ?_
        refine z_icmp_le 58 dX10_deepOf_51 (by decide) (fun c51 => ?_) (fun c51 => ?_)
        · refine z_iload_n dX10_deepOf_58 rfl ?_
          refine z_iadd dX10_deepOf_59 ?_
          refine z_ireturn dX10_deepOf_60 rfl rfl ⟨Nat.le_refl _, Nat.le_refl _⟩ ?_
          first
            | (have g := i_le (by omega) (by omega) c51
               rw [hS, Nat.max_eq_right g, show (1 : Int32) = nI 1 from rfl, nI_add, Nat.add_comm]
               exact ⟨rfl, rfl, rfl⟩)
            | (have g := i_nle (by omega) c51
               rw [hS, Nat.max_eq_left (by omega), show (1 : Int32) = nI 1 from rfl, nI_add, Nat.add_comm]
               exact ⟨rfl, rfl, rfl⟩)
            | (rw [hS, show (1 : Int32) = nI 1 from rfl, nI_add, Nat.add_comm]
               exact ⟨rfl, rfl, rfl⟩)
            | (have g : (sem n v nd (nO nd i)).2.2 = 0 := (n0I (by omega)).mp c51
               rw [hS, g]
               exact ⟨rfl, rfl, rfl⟩)
            | skip
        · refine z_iload_n dX10_deepOf_54 rfl ?_
          refine z_goto 59 dX10_deepOf_55 (by decide) ?_
          refine z_iadd dX10_deepOf_59 ?_
          refine z_ireturn dX10_deepOf_60 rfl rfl ⟨Nat.le_refl _, Nat.le_refl _⟩ ?_
          first
            | (have g := i_le (by omega) (by omega) c51
               rw [hS, Nat.max_eq_right g, show (1 : Int32) = nI 1 from rfl, nI_add, Nat.add_comm]
               exact ⟨rfl, rfl, rfl⟩)
            | (have g := i_nle (by omega) c51
               rw [hS, Nat.max_eq_left (by omega), show (1 : Int32) = nI 1 from rfl, nI_add, Nat.add_comm]
               exact ⟨rfl, rfl, rfl⟩)
            | (rw [hS, show (1 : Int32) = nI 1 from rfl, nI_add, Nat.add_comm]
               exact ⟨rfl, rfl, rfl⟩)
            | (have g : (sem n v nd (nO nd i)).2.2 = 0 := (n0I (by omega)).mp c51
               rw [hS, g]
               exact ⟨rfl, rfl, rfl⟩)
            | skip
      · have h4 : nS nd i = 4 := (nI_eq (b := 4) (by omega) (by decide)).mp c30
        have hS : (sem n v nd i).2.2 = (sem n v nd (nO nd i)).2.2 + 1 := by rw [sem_not hk hi h4]; rfl
        refine z_iconst 0 dX10_deepOf_33 rfl ?_
        refine z_goto 47 dX10_deepOf_34 (by decide) ?_
        refine z_istore_n (lv' := [_, _, _, _]) dX10_deepOf_47 (by decide) rfl ?_
        refine z_iconst 1 dX10_deepOf_48 rfl ?_
        refine z_iload_n dX10_deepOf_49 rfl ?_
        refine z_iload_n dX10_deepOf_50 rfl ?_
        refine z_icmp_le 58 dX10_deepOf_51 (by decide) (fun c51 => ?_) (fun c51 => ?_)
        · refine z_iload_n dX10_deepOf_58 rfl ?_
          refine z_iadd dX10_deepOf_59 ?_
          refine z_ireturn dX10_deepOf_60 rfl rfl ⟨Nat.le_refl _, Nat.le_refl _⟩ ?_
          first
            | (have g := i_le (by omega) (by omega) c51
               rw [hS, Nat.max_eq_right g, show (1 : Int32) = nI 1 from rfl, nI_add, Nat.add_comm]
               exact ⟨rfl, rfl, rfl⟩)
            | (have g := i_nle (by omega) c51
               rw [hS, Nat.max_eq_left (by omega), show (1 : Int32) = nI 1 from rfl, nI_add, Nat.add_comm]
               exact ⟨rfl, rfl, rfl⟩)
            | (rw [hS, show (1 : Int32) = nI 1 from rfl, nI_add, Nat.add_comm]
               exact ⟨rfl, rfl, rfl⟩)
            | (have g : (sem n v nd (nO nd i)).2.2 = 0 := (n0I (by omega)).mp c51
               rw [hS, g]
               exact ⟨rfl, rfl, rfl⟩)
            | skip
        · refine z_iload_n dX10_deepOf_54 rfl ?_
          refine z_goto 59 dX10_deepOf_55 (by decide) ?_
          refine z_iadd dX10_deepOf_59 ?_
          refine z_ireturn dX10_deepOf_60 rfl rfl ⟨Nat.le_refl _, Nat.le_refl _⟩ ?_
          first
            | (have g := i_le (by omega) (by omega) c51
               rw [hS, Nat.max_eq_right g, show (1 : Int32) = nI 1 from rfl, nI_add, Nat.add_comm]
               exact ⟨rfl, rfl, rfl⟩)
            | (have g := i_nle (by omega) c51
               rw [hS, Nat.max_eq_left (by omega), show (1 : Int32) = nI 1 from rfl, nI_add, Nat.add_comm]
               exact ⟨rfl, rfl, rfl⟩)
            | (rw [hS, show (1 : Int32) = nI 1 from rfl, nI_add, Nat.add_comm]
               exact ⟨rfl, rfl, rfl⟩)
            | (have g : (sem n v nd (nO nd i)).2.2 = 0 := (n0I (by omega)).mp c51
               rw [hS, g]
               exact ⟨rfl, rfl, rfl⟩)
            | skip
    · have hs := i_nlt (a := 3) (by omega) c7
      have hS : (sem n v nd i).2.2 = 1 := by rw [sem_leaf (by omega)]; rfl
      refine z_iconst 1 dX10_deepOf_10 rfl ?_
      refine z_ireturn dX10_deepOf_11 rfl rfl ⟨Nat.le_refl _, Nat.le_refl _⟩ ?_
      rw [hS]
      exact ⟨rfl, rfl, rfl⟩
theorem C_Mo_sortsIn {b : Bool} (hM : tMo sh m) (hQ : mQ S m n v q N nd stk) : ∀ i, i < N → zD G m_Mo_sortsIn (i + 2) sh [.ref m, .int (nI (60 * q + i)), .int (zo b)] S (some (.int (nI (srt nd b i)))) S := by
  obtain ⟨m0, a1, a2, a3, a4, a5, a6, a7, a8, a9, a10, a11, a12, a13, a14, a15, a16, a22⟩ := id hM
  obtain ⟨hg, hn, hv, hnd, hq, hw⟩ := hQ
  obtain ⟨w0, wN, wst0, wstN, wlen, wok⟩ := id hw
  have hk := fun i hi => kid_lt wst0 (fun i hi => (wok i hi).1) (i := i) hi
  intro i
  induction i using Nat.strongRecOn with
  | _ i ih =>
    intro hi
    obtain ⟨d1, d2, d3, d4, d5, d6⟩ := hnd i hi
    have s7 := hw.s7 hi
    have hO := (hk i hi).1
    have hT := (hk i hi).2
    refine s_methD 2 ⟨p_Mo, rfl, Nat.le_of_ble_eq_true rfl⟩ rfl (fun sz => ?_)
    refine z_aload_n dX10_sortsIn_0 rfl ?_
    refine s_getr f_Mo_24 dX10_sortsIn_1 (by assumption) rfl ?_
    refine z_iload_n dX10_sortsIn_4 rfl ?_
    refine s_iald dX10_sortsIn_5 a5 (vp_in_nI (by omega) (by decide)) ?_
    rw [nI_clamp (by omega), d1]
    refine z_istore_n (lv' := [_, _, _, _, _]) dX10_sortsIn_6 (by decide) rfl ?_
    refine z_iload_n dX10_sortsIn_7 rfl ?_
    refine z_iconst 3 dX10_sortsIn_8 rfl ?_
    refine z_icmp_gt 22 dX10_sortsIn_9 (by decide) (fun c9 => ?_) (fun c9 => ?_)
    · have hs := i_lt (a := 3) (by decide) (by omega) c9
      have hO := hO (by omega)
      refine z_iload_n dX10_sortsIn_22 rfl ?_
      refine z_iconst 4 dX10_sortsIn_23 rfl ?_
      refine z_icmp_ne 35 dX10_sortsIn_24 (by decide) (fun c24 => ?_) (fun c24 => ?_)
      · have h4 : ¬ nS nd i = 4 := fun z => c24 (by rw [z]; rfl)
        have hT := hT (by omega)
        have hS := srt_join (b := b) hk hi (by omega)
        refine z_iconst 0 dX10_sortsIn_35 rfl ?_
        refine z_istore (lv' := [_, _, _, _, _]) dX10_sortsIn_36 (by decide) rfl ?_
        refine z_iload dX10_sortsIn_38 rfl ?_
        refine z_aload_n dX10_sortsIn_40 rfl ?_
        refine z_aload_n dX10_sortsIn_41 rfl ?_
        refine s_getr f_Mo_36 dX10_sortsIn_42 (by assumption) rfl ?_
        refine z_iload_n dX10_sortsIn_45 rfl ?_
        refine s_iald dX10_sortsIn_46 a9 (vp_in_nI (by omega) (by decide)) ?_
        rw [nI_clamp (by omega), d5 (by omega)]
        refine z_iload_n dX10_sortsIn_47 rfl ?_
        refine s_callV1 l_Mo_156 (ih (nO nd i) hO (by omega)) m0 dX10_sortsIn_48 rfl rfl (Nat.le_of_ble_eq_true rfl) (rrm (by omega) (by decide)) ?_
        refine z_iadd dX10_sortsIn_51 ?_
        refine z_iload_n dX10_sortsIn_52 rfl ?_
        refine z_iconst 4 dX10_sortsIn_53 rfl ?_
        refine z_icmp_ne 61 dX10_sortsIn_54 (by decide) (fun c54 => ?_) (fun c54 => ?_)
        · first
            | exact absurd (by rw [h4]; rfl) c54
            | (refine z_aload_n dX10_sortsIn_61 rfl ?_
               refine z_aload_n dX10_sortsIn_62 rfl ?_
               refine s_getr f_Mo_39 dX10_sortsIn_63 (by assumption) rfl ?_
               refine z_iload_n dX10_sortsIn_66 rfl ?_
               refine s_iald dX10_sortsIn_67 a10 (vp_in_nI (by omega) (by decide)) ?_
               rw [nI_clamp (by omega), d6 (by omega)]
               refine z_iload_n dX10_sortsIn_68 rfl ?_
               refine s_callV1 l_Mo_156 (ih (nT nd i) hT (by omega)) m0 dX10_sortsIn_69 rfl rfl (Nat.le_of_ble_eq_true rfl) (rrm (by omega) (by decide)) ?_
               refine z_iadd dX10_sortsIn_72 ?_
               refine z_ireturn dX10_sortsIn_73 rfl rfl ⟨Nat.le_refl _, Nat.le_refl _⟩ ?_
               rw [hS]
               first
                 | exact ⟨rfl, rfl, rfl⟩
                 | (rw [show (1 : Int32) = nI 1 from rfl, nI_add, Int32.add_zero]; exact ⟨rfl, rfl, rfl⟩)
                 | (rw [Int32.zero_add, Int32.add_zero, Nat.zero_add]; exact ⟨rfl, rfl, rfl⟩)
                 | (rw [Int32.zero_add, nI_add]; exact ⟨rfl, rfl, rfl⟩)
                 | skip)
        · first
            | exact absurd ((nI_eq (b := 4) (by omega) (by decide)).mp c54) h4
            | (refine z_iconst 0 dX10_sortsIn_57 rfl ?_
               refine z_goto 72 dX10_sortsIn_58 (by decide) ?_
               refine z_iadd dX10_sortsIn_72 ?_
               refine z_ireturn dX10_sortsIn_73 rfl rfl ⟨Nat.le_refl _, Nat.le_refl _⟩ ?_
               rw [hS]
               first
                 | exact ⟨rfl, rfl, rfl⟩
                 | (rw [show (1 : Int32) = nI 1 from rfl, nI_add, Int32.add_zero]; exact ⟨rfl, rfl, rfl⟩)
                 | (rw [Int32.zero_add, Int32.add_zero, Nat.zero_add]; exact ⟨rfl, rfl, rfl⟩)
                 | (rw [Int32.zero_add, nI_add]; exact ⟨rfl, rfl, rfl⟩)
                 | skip)
      · have h4 : nS nd i = 4 := (nI_eq (b := 4) (by omega) (by decide)).mp c24
        have hS := srt_not (b := b) hk hi h4
        refine z_iload_n dX10_sortsIn_27 rfl ?_
        refine z_if_eq 35 dX10_sortsIn_28 (by decide) (fun c28 => ?_) (fun c28 => ?_)
        · rw [if_neg (fun z => zoT z c28)] at hS
          refine z_iconst 0 dX10_sortsIn_35 rfl ?_
          refine z_istore (lv' := [_, _, _, _, _]) dX10_sortsIn_36 (by decide) rfl ?_
          refine z_iload dX10_sortsIn_38 rfl ?_
          refine z_aload_n dX10_sortsIn_40 rfl ?_
          refine z_aload_n dX10_sortsIn_41 rfl ?_
          refine s_getr f_Mo_36 dX10_sortsIn_42 (by assumption) rfl ?_
          refine z_iload_n dX10_sortsIn_45 rfl ?_
          refine s_iald dX10_sortsIn_46 a9 (vp_in_nI (by omega) (by decide)) ?_
          rw [nI_clamp (by omega), d5 (by omega)]
          refine z_iload_n dX10_sortsIn_47 rfl ?_
          refine s_callV1 l_Mo_156 (ih (nO nd i) hO (by omega)) m0 dX10_sortsIn_48 rfl rfl (Nat.le_of_ble_eq_true rfl) (rrm (by omega) (by decide)) ?_
          refine z_iadd dX10_sortsIn_51 ?_
          refine z_iload_n dX10_sortsIn_52 rfl ?_
          refine z_iconst 4 dX10_sortsIn_53 rfl ?_
          refine z_icmp_ne 61 dX10_sortsIn_54 (by decide) (fun c54 => ?_) (fun c54 => ?_)
          · first
              | exact absurd (by rw [h4]; rfl) c54
              | (refine z_aload_n dX10_sortsIn_61 rfl ?_
                 refine z_aload_n dX10_sortsIn_62 rfl ?_
                 refine s_getr f_Mo_39 dX10_sortsIn_63 (by assumption) rfl ?_
                 refine z_iload_n dX10_sortsIn_66 rfl ?_
                 refine s_iald dX10_sortsIn_67 a10 (vp_in_nI (by omega) (by decide)) ?_
                 rw [nI_clamp (by omega), d6 (by omega)]
                 refine z_iload_n dX10_sortsIn_68 rfl ?_
                 refine s_callV1 l_Mo_156 (ih (nT nd i) hT (by omega)) m0 dX10_sortsIn_69 rfl rfl (Nat.le_of_ble_eq_true rfl) (rrm (by omega) (by decide)) ?_
                 refine z_iadd dX10_sortsIn_72 ?_
                 refine z_ireturn dX10_sortsIn_73 rfl rfl ⟨Nat.le_refl _, Nat.le_refl _⟩ ?_
                 rw [hS]
                 first
                   | exact ⟨rfl, rfl, rfl⟩
                   | (rw [show (1 : Int32) = nI 1 from rfl, nI_add, Int32.add_zero]; exact ⟨rfl, rfl, rfl⟩)
                   | (rw [Int32.zero_add, Int32.add_zero, Nat.zero_add]; exact ⟨rfl, rfl, rfl⟩)
                   | (rw [Int32.zero_add, nI_add]; exact ⟨rfl, rfl, rfl⟩)
                   | skip)
          · first
              | exact absurd ((nI_eq (b := 4) (by omega) (by decide)).mp c54) h4
              | (refine z_iconst 0 dX10_sortsIn_57 rfl ?_
                 refine z_goto 72 dX10_sortsIn_58 (by decide) ?_
                 refine z_iadd dX10_sortsIn_72 ?_
                 refine z_ireturn dX10_sortsIn_73 rfl rfl ⟨Nat.le_refl _, Nat.le_refl _⟩ ?_
                 rw [hS]
                 first
                   | exact ⟨rfl, rfl, rfl⟩
                   | (rw [show (1 : Int32) = nI 1 from rfl, nI_add, Int32.add_zero]; exact ⟨rfl, rfl, rfl⟩)
                   | (rw [Int32.zero_add, Int32.add_zero, Nat.zero_add]; exact ⟨rfl, rfl, rfl⟩)
                   | (rw [Int32.zero_add, nI_add]; exact ⟨rfl, rfl, rfl⟩)
                   | skip)
        · rw [if_pos (zo_ne0.mp c28)] at hS
          refine z_iconst 1 dX10_sortsIn_31 rfl ?_
          refine z_goto 36 dX10_sortsIn_32 (by decide) ?_
          refine z_istore (lv' := [_, _, _, _, _]) dX10_sortsIn_36 (by decide) rfl ?_
          refine z_iload dX10_sortsIn_38 rfl ?_
          refine z_aload_n dX10_sortsIn_40 rfl ?_
          refine z_aload_n dX10_sortsIn_41 rfl ?_
          refine s_getr f_Mo_36 dX10_sortsIn_42 (by assumption) rfl ?_
          refine z_iload_n dX10_sortsIn_45 rfl ?_
          refine s_iald dX10_sortsIn_46 a9 (vp_in_nI (by omega) (by decide)) ?_
          rw [nI_clamp (by omega), d5 (by omega)]
          refine z_iload_n dX10_sortsIn_47 rfl ?_
          refine s_callV1 l_Mo_156 (ih (nO nd i) hO (by omega)) m0 dX10_sortsIn_48 rfl rfl (Nat.le_of_ble_eq_true rfl) (rrm (by omega) (by decide)) ?_
          refine z_iadd dX10_sortsIn_51 ?_
          refine z_iload_n dX10_sortsIn_52 rfl ?_
          refine z_iconst 4 dX10_sortsIn_53 rfl ?_
          refine z_icmp_ne 61 dX10_sortsIn_54 (by decide) (fun c54 => ?_) (fun c54 => ?_)
          · first
              | exact absurd (by rw [h4]; rfl) c54
              | (refine z_aload_n dX10_sortsIn_61 rfl ?_
                 refine z_aload_n dX10_sortsIn_62 rfl ?_
                 refine s_getr f_Mo_39 dX10_sortsIn_63 (by assumption) rfl ?_
                 refine z_iload_n dX10_sortsIn_66 rfl ?_
                 refine s_iald dX10_sortsIn_67 a10 (vp_in_nI (by omega) (by decide)) ?_
                 rw [nI_clamp (by omega), d6 (by omega)]
                 refine z_iload_n dX10_sortsIn_68 rfl ?_
                 refine s_callV1 l_Mo_156 (ih (nT nd i) hT (by omega)) m0 dX10_sortsIn_69 rfl rfl (Nat.le_of_ble_eq_true rfl) (rrm (by omega) (by decide)) ?_
                 refine z_iadd dX10_sortsIn_72 ?_
                 refine z_ireturn dX10_sortsIn_73 rfl rfl ⟨Nat.le_refl _, Nat.le_refl _⟩ ?_
                 rw [hS]
                 first
                   | exact ⟨rfl, rfl, rfl⟩
                   | (rw [show (1 : Int32) = nI 1 from rfl, nI_add, Int32.add_zero]; exact ⟨rfl, rfl, rfl⟩)
                   | (rw [Int32.zero_add, Int32.add_zero, Nat.zero_add]; exact ⟨rfl, rfl, rfl⟩)
                   | (rw [Int32.zero_add, nI_add]; exact ⟨rfl, rfl, rfl⟩)
                   | skip)
          · first
              | exact absurd ((nI_eq (b := 4) (by omega) (by decide)).mp c54) h4
              | (refine z_iconst 0 dX10_sortsIn_57 rfl ?_
                 refine z_goto 72 dX10_sortsIn_58 (by decide) ?_
                 refine z_iadd dX10_sortsIn_72 ?_
                 refine z_ireturn dX10_sortsIn_73 rfl rfl ⟨Nat.le_refl _, Nat.le_refl _⟩ ?_
                 rw [hS]
                 first
                   | exact ⟨rfl, rfl, rfl⟩
                   | (rw [show (1 : Int32) = nI 1 from rfl, nI_add, Int32.add_zero]; exact ⟨rfl, rfl, rfl⟩)
                   | (rw [Int32.zero_add, Int32.add_zero, Nat.zero_add]; exact ⟨rfl, rfl, rfl⟩)
                   | (rw [Int32.zero_add, nI_add]; exact ⟨rfl, rfl, rfl⟩)
                   | skip)
    · have hs := i_nlt (a := 3) (by omega) c9
      have hS := srt_leaf (nd := nd) (b := b) (i := i) (by omega)
      refine z_iload_n dX10_sortsIn_12 rfl ?_
      refine z_if_eq 20 dX10_sortsIn_13 (by decide) (fun c13 => ?_) (fun c13 => ?_)
      · rw [if_neg (fun z => zoT z c13)] at hS
        refine z_iconst 1 dX10_sortsIn_20 rfl ?_
        refine z_ireturn dX10_sortsIn_21 rfl rfl ⟨Nat.le_refl _, Nat.le_refl _⟩ ?_
        rw [hS]
        first
          | exact ⟨rfl, rfl, rfl⟩
          | (rw [show (1 : Int32) = nI 1 from rfl, nI_add, Int32.add_zero]; exact ⟨rfl, rfl, rfl⟩)
          | (rw [Int32.zero_add, Int32.add_zero, Nat.zero_add]; exact ⟨rfl, rfl, rfl⟩)
          | (rw [Int32.zero_add, nI_add]; exact ⟨rfl, rfl, rfl⟩)
          | skip
      · rw [if_pos (zo_ne0.mp c13)] at hS
        refine z_iconst 0 dX10_sortsIn_16 rfl ?_
        refine z_goto 21 dX10_sortsIn_17 (by decide) ?_
        refine z_ireturn dX10_sortsIn_21 rfl rfl ⟨Nat.le_refl _, Nat.le_refl _⟩ ?_
        rw [hS]
        first
          | exact ⟨rfl, rfl, rfl⟩
          | (rw [show (1 : Int32) = nI 1 from rfl, nI_add, Int32.add_zero]; exact ⟨rfl, rfl, rfl⟩)
          | (rw [Int32.zero_add, Int32.add_zero, Nat.zero_add]; exact ⟨rfl, rfl, rfl⟩)
          | (rw [Int32.zero_add, nI_add]; exact ⟨rfl, rfl, rfl⟩)
          | skip
theorem C_Mo_cost (hM : tMo sh m) (hQ : mQ S m n v q N nd stk) : ∀ i, i < N → zD G m_Mo_cost (i + 4) sh [.ref m, .int (nI (60 * q + i))] S (some (.int (nI (sem n v nd i).2.1))) S := by
  obtain ⟨m0, a1, a2, a3, a4, a5, a6, a7, a8, a9, a10, a11, a12, a13, a14, a15, a16, a22⟩ := id hM
  have hQ2 := hQ
  obtain ⟨hg, hn, hv, hnd, hq, hw⟩ := hQ
  obtain ⟨w0, wN, wst0, wstN, wlen, wok⟩ := id hw
  have hk := fun i hi => kid_lt wst0 (fun i hi => (wok i hi).1) (i := i) hi
  intro i
  induction i using Nat.strongRecOn with
  | _ i ih =>
    intro hi
    obtain ⟨d1, d2, d3, d4, d5, d6⟩ := hnd i hi
    obtain ⟨o1, o2, o3⟩ := (wok i hi).2
    have s7 := hw.s7 hi
    have hO := (hk i hi).1
    have hT := (hk i hi).2
    have ik : ∀ t, t < 7 → nI (nS nd i) = nI t → nS nd i = t := fun t ht h => (nI_eq (by omega) (by omega)).mp h
    refine s_methD 2 ⟨p_Mo, rfl, Nat.le_of_ble_eq_true rfl⟩ rfl (fun sz => ?_)
    have loop : (sem n v nd i).2.1 = slN v n (nC nd i) 4 → ∀ d t, 4 - t = d → t ≤ 4 → zW G m_Mo_cost (zRm (i + 4) 0 0) (zFm G (zQe (some (.int (nI (sem n v nd i).2.1))) (zhp sh S) sz) 0 0) 0 0 64 [some (.ref m), some (.int (nI (60 * q + i))), some (.int (nI (slN v n (nC nd i) t))), some (.int (nI (16 + t)))] [] (zhp sh S) sz := by
      intro hS d
      induction d with
      | zero =>
        intro t h1 h2
        have ht : t = 4 := by omega
        subst ht
        refine z_iload_n dX10_cost_64 rfl ?_
        refine z_bipush 20 dX10_cost_65 (by decide) ?_
        refine z_icmp_ge 90 dX10_cost_67 (by decide) (fun c67 => ?_) (fun c67 => ?_)
        · refine z_iload_n dX10_cost_90 rfl ?_
          refine z_ireturn dX10_cost_91 rfl rfl ⟨Nat.le_refl _, Nat.le_refl _⟩ ?_
          rw [hS]
          exact ⟨rfl, rfl, rfl⟩
        · exact absurd (nI_le (a := 20) (b := 20) (Nat.le_refl _) (by decide)) c67
      | succ d ih =>
        intro t h1 h2
        refine z_iload_n dX10_cost_64 rfl ?_
        refine z_bipush 20 dX10_cost_65 (by decide) ?_
        refine z_icmp_ge 90 dX10_cost_67 (by decide) (fun c67 => ?_) (fun c67 => ?_)
        · exact absurd c67 (nI_ge (b := 20) (by omega) (by decide))
        · refine z_iload_n dX10_cost_70 rfl ?_
          refine z_aload_n dX10_cost_71 rfl ?_
          refine z_aload_n dX10_cost_72 rfl ?_
          refine s_getr f_Mo_27 dX10_cost_73 (by assumption) rfl ?_
          refine z_iload_n dX10_cost_76 rfl ?_
          refine s_iald dX10_cost_77 a6 (vp_in_nI (by omega) (by decide)) ?_
          rw [nI_clamp (by omega), d2]
          refine z_iload_n dX10_cost_78 rfl ?_
          refine s_callV1 l_Mo_78 (C_Mo_runsOf hM hg hn o1 (by omega) hv) m0 dX10_cost_79 rfl rfl (Nat.le_of_ble_eq_true rfl) (rrm (by omega) (by decide)) ?_
          refine z_iadd dX10_cost_82 ?_
          refine z_istore_n (lv' := [_, _, _, _]) dX10_cost_83 (by decide) rfl ?_
          refine z_iinc (lv' := [_, _, _, _]) 1 dX10_cost_84 rfl (by decide) rfl rfl ?_
          refine z_goto 64 dX10_cost_87 (by decide) ?_
          rw [nI_1, nI_add]
          exact ih (t + 1) (by omega) (by omega)
    refine z_aload_n dX10_cost_0 rfl ?_
    refine s_getr f_Mo_24 dX10_cost_1 (by assumption) rfl ?_
    refine z_iload_n dX10_cost_4 rfl ?_
    refine s_iald dX10_cost_5 a5 (vp_in_nI (by omega) (by decide)) ?_
    rw [nI_clamp (by omega), d1]
    refine z_table 0 [40, 42, 59, 59, 92] 103 dX10_cost_6 (by decide) ⟨fun c6 => ?_, fun c6 => ?_, fun c6 => ?_, fun c6 => ?_, fun c6 => ?_, trivial⟩ (fun c6 => ?_)
    · have hs := ik 0 (by decide) c6
      have hS : (sem n v nd i).2.1 = 0 := by rw [sem_leaf (by omega), hs]; rfl
      refine z_iconst 0 dX10_cost_40 rfl ?_
      refine z_ireturn dX10_cost_41 rfl rfl ⟨Nat.le_refl _, Nat.le_refl _⟩ ?_
      rw [hS]
      first
        | exact ⟨rfl, rfl, rfl⟩
        | (rw [nI_add, nI_add, nI_add]; exact ⟨rfl, rfl, rfl⟩)
        | skip
    · have hs := ik 1 (by decide) c6
      have hS : (sem n v nd i).2.1 = runsN (kbits v (nC nd i) (nL nd i)) n := by
        rw [sem_leaf (by omega), hs]
        show runsN (lfB v 1 (nC nd i) (nL nd i) (nH nd i)) n = _
        exact runsN_cong (fun j hj => by unfold kbits kb; rw [if_pos o2]; rfl)
      refine z_aload_n dX10_cost_42 rfl ?_
      refine z_aload_n dX10_cost_43 rfl ?_
      refine s_getr f_Mo_27 dX10_cost_44 (by assumption) rfl ?_
      refine z_iload_n dX10_cost_47 rfl ?_
      refine s_iald dX10_cost_48 a6 (vp_in_nI (by omega) (by decide)) ?_
      rw [nI_clamp (by omega), d2]
      refine z_aload_n dX10_cost_49 rfl ?_
      refine s_getr f_Mo_30 dX10_cost_50 (by assumption) rfl ?_
      refine z_iload_n dX10_cost_53 rfl ?_
      refine s_iald dX10_cost_54 a7 (vp_in_nI (by omega) (by decide)) ?_
      rw [nI_clamp (by omega), d3]
      refine s_callV1 l_Mo_78 (C_Mo_runsOf hM hg hn o1 (by omega) hv) m0 dX10_cost_55 rfl rfl (Nat.le_of_ble_eq_true rfl) (rrm (by omega) (by decide)) ?_
      refine z_ireturn dX10_cost_58 rfl rfl ⟨Nat.le_refl _, Nat.le_refl _⟩ ?_
      rw [hS]
      first
        | exact ⟨rfl, rfl, rfl⟩
        | (rw [nI_add, nI_add, nI_add]; exact ⟨rfl, rfl, rfl⟩)
        | skip
    · have hs := ik 2 (by decide) c6
      have hS : (sem n v nd i).2.1 = slN v n (nC nd i) 4 := by rw [sem_leaf (by omega), hs]; rfl
      refine z_iconst 0 dX10_cost_59 rfl ?_
      refine z_istore_n (lv' := [_, _, _, _]) dX10_cost_60 (by decide) rfl ?_
      refine z_bipush 16 dX10_cost_61 (by decide) ?_
      refine z_istore_n (lv' := [_, _, _, _]) dX10_cost_63 (by decide) rfl ?_
      exact loop hS 4 0 rfl (by decide)
    · have hs := ik 3 (by decide) c6
      have hS : (sem n v nd i).2.1 = slN v n (nC nd i) 4 := by rw [sem_leaf (by omega), hs]; rfl
      refine z_iconst 0 dX10_cost_59 rfl ?_
      refine z_istore_n (lv' := [_, _, _, _]) dX10_cost_60 (by decide) rfl ?_
      refine z_bipush 16 dX10_cost_61 (by decide) ?_
      refine z_istore_n (lv' := [_, _, _, _]) dX10_cost_63 (by decide) rfl ?_
      exact loop hS 4 0 rfl (by decide)
    · have hs := ik 4 (by decide) c6
      have hO := hO (by omega)
      have hS : (sem n v nd i).2.1 = (sem n v nd (nO nd i)).2.1 := by rw [sem_not hk hi hs]; rfl
      refine z_aload_n dX10_cost_92 rfl ?_
      refine z_aload_n dX10_cost_93 rfl ?_
      refine s_getr f_Mo_36 dX10_cost_94 (by assumption) rfl ?_
      refine z_iload_n dX10_cost_97 rfl ?_
      refine s_iald dX10_cost_98 a9 (vp_in_nI (by omega) (by decide)) ?_
      rw [nI_clamp (by omega), d5 (by omega)]
      refine s_callV1 l_Mo_150 (ih (nO nd i) hO (by omega)) m0 dX10_cost_99 rfl rfl (Nat.le_of_ble_eq_true rfl) (rrm (by omega) (by decide)) ?_
      refine z_ireturn dX10_cost_102 rfl rfl ⟨Nat.le_refl _, Nat.le_refl _⟩ ?_
      rw [hS]
      first
        | exact ⟨rfl, rfl, rfl⟩
        | (rw [nI_add, nI_add, nI_add]; exact ⟨rfl, rfl, rfl⟩)
        | skip
    · have hs : 5 ≤ nS nd i := by
        rcases Nat.lt_or_ge (nS nd i) 5 with z | z
        · exact absurd rfl (c6 _ (Nat.zero_le _) z)
        · exact z
      have hO := hO (by omega)
      have hT := hT (by omega)
      have hS : (sem n v nd i).2.1 = (sem n v nd (nO nd i)).2.1 + (sem n v nd (nT nd i)).2.1 + runsN (sem n v nd (nO nd i)).1 n + runsN (sem n v nd (nT nd i)).1 n := by rw [sem_join hk hi hs]; rfl
      refine z_aload_n dX10_cost_103 rfl ?_
      refine z_aload_n dX10_cost_104 rfl ?_
      refine s_getr f_Mo_36 dX10_cost_105 (by assumption) rfl ?_
      refine z_iload_n dX10_cost_108 rfl ?_
      refine s_iald dX10_cost_109 a9 (vp_in_nI (by omega) (by decide)) ?_
      rw [nI_clamp (by omega), d5 (by omega)]
      refine s_callV1 l_Mo_150 (ih (nO nd i) hO (by omega)) m0 dX10_cost_110 rfl rfl (Nat.le_of_ble_eq_true rfl) (rrm (by omega) (by decide)) ?_
      refine z_aload_n dX10_cost_113 rfl ?_
      refine z_aload_n dX10_cost_114 rfl ?_
      refine s_getr f_Mo_39 dX10_cost_115 (by assumption) rfl ?_
      refine z_iload_n dX10_cost_118 rfl ?_
      refine s_iald dX10_cost_119 a10 (vp_in_nI (by omega) (by decide)) ?_
      rw [nI_clamp (by omega), d6 (by omega)]
      refine s_callV1 l_Mo_150 (ih (nT nd i) hT (by omega)) m0 dX10_cost_120 rfl rfl (Nat.le_of_ble_eq_true rfl) (rrm (by omega) (by decide)) ?_
      refine z_iadd dX10_cost_123 ?_
      refine z_aload_n dX10_cost_124 rfl ?_
      refine z_aload_n dX10_cost_125 rfl ?_
      refine s_getr f_Mo_36 dX10_cost_126 (by assumption) rfl ?_
      refine z_iload_n dX10_cost_129 rfl ?_
      refine s_iald dX10_cost_130 a9 (vp_in_nI (by omega) (by decide)) ?_
      rw [nI_clamp (by omega), d5 (by omega)]
      refine s_callV1 l_Mo_153 (C_Mo_resultRuns (i := nO nd i) hM hQ2 (by omega)) m0 dX10_cost_131 rfl rfl (Nat.le_of_ble_eq_true rfl) (rrm (by omega) (by decide)) ?_
      refine z_iadd dX10_cost_134 ?_
      refine z_aload_n dX10_cost_135 rfl ?_
      refine z_aload_n dX10_cost_136 rfl ?_
      refine s_getr f_Mo_39 dX10_cost_137 (by assumption) rfl ?_
      refine z_iload_n dX10_cost_140 rfl ?_
      refine s_iald dX10_cost_141 a10 (vp_in_nI (by omega) (by decide)) ?_
      rw [nI_clamp (by omega), d6 (by omega)]
      refine s_callV1 l_Mo_153 (C_Mo_resultRuns (i := nT nd i) hM hQ2 (by omega)) m0 dX10_cost_142 rfl rfl (Nat.le_of_ble_eq_true rfl) (rrm (by omega) (by decide)) ?_
      refine z_iadd dX10_cost_145 ?_
      refine z_ireturn dX10_cost_146 rfl rfl ⟨Nat.le_refl _, Nat.le_refl _⟩ ?_
      rw [hS]
      first
        | exact ⟨rfl, rfl, rfl⟩
        | (rw [nI_add, nI_add, nI_add]; exact ⟨rfl, rfl, rfl⟩)
        | skip
end MOE

