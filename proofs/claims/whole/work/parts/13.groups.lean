/-! ===== Groups ===== -/
def tGroups (sh : Nat → Option zSh) (g : Nat) : Prop := sh g = some (.inl (1, [some (some (g + 1)), some (some (g + 2)), none])) ∧ sh (g + 1) = some kB ∧ sh (g + 2) = some (.inr (0, 16, fNo))
/-- bits at a are those of f below n -/
def rBits (S : zSt) (a n : Nat) (f : Nat → Bool) : Prop := ∀ j, j < 128 → bq S a j = (decide (j < n) && f j)
theorem rBits.ct {S : zSt} {a n : Nat} {f : Nat → Bool} (h : rBits S a n f) (hn : n ≤ 128) : fb_ct (bq S a) 128 = fb_ct f n := by
  rw [fb_ct_cong (q := fun j => f j && decide (j < n)) (fun j hj => by rw [h j hj, Bool.and_comm]), ct_cut _ hn]
theorem rBits.runs {S : zSt} {a n : Nat} {f : Nat → Bool} (h : rBits S a n f) (hn : n ≤ 128) : runsN (bq S a) n = runsN f n := runsN_cong (fun j hj => by rw [h j (by omega)]; simp [hj])
theorem rBits.fr {S S' : zSt} {a n : Nat} {f : Nat → Bool} {P : Nat → Prop} (h : rBits S a n f) (hf : frS S P S') (ha : ¬ P a) : rBits S' a n f := fun j hj => by rw [zag_bq (hf a ha)]; exact h j hj
/-- how many rows of a result have a value -/
def gct (f : Nat → Bool) (v : Nat → Nat → Nat) (n c k : Nat) : Nat := fb_ct (fun j => f j && decide (v j c = k)) n
theorem gct_sum (f : Nat → Bool) (v : Nat → Nat → Nat) (c : Nat) : ∀ n, (∀ j, j < n → v j c < 16) → fb_sm (gct f v n c) 16 = fb_ct f n
  | 0, _ => by
    have : ∀ m, fb_sm (gct f v 0 c) m = 0 := by
      intro m
      induction m with
      | zero => rfl
      | succ m ih => rw [fb_sm_succ, ih]; rfl
    exact this 16
  | n + 1, h => by
    have ih := gct_sum f v c n (fun j hj => h j (by omega))
    rw [fb_ct_succ, ← ih]
    have e : ∀ k, gct f v (n + 1) c k = gct f v n c k + (if (f n && decide (v n c = k)) = true then 1 else 0) := fun k => fb_ct_succ _ _
    rw [fb_sm_cong (g := fun k => gct f v n c k + (if (f n && decide (v n c = k)) = true then 1 else 0)) (fun k _ => e k), fb_sm_add]
    congr 1
    cases hf : f n with
    | false =>
      rw [fb_sm_cong (g := fun _ => 0) (fun k _ => by simp), fb_sm_const]
      simp
    | true =>
      have hv := h n (by omega)
      have := fb_sm_upd (fun _ => 0) 1 hv
      rw [fb_sm_const] at this
      rw [fb_sm_cong (g := fun k => if k = v n c then 1 else 0) (fun k _ => by
        by_cases q : v n c = k
        · simp [q]
        · simp [q, Ne.symm q])]
      simp at this ⊢
      exact this
theorem gct_le (f : Nat → Bool) (v : Nat → Nat → Nat) (n c k : Nat) : gct f v n c k ≤ n := fb_ct_le _ n
/-! the five answers, as the values go by -/
def eL (z : Nat → Nat) : Nat → Int32
  | 0 => -5
  | i + 1 => if 0 < z i then (if eL z i < 0 then nI i else eL z i) else eL z i
def eG (z : Nat → Nat) : Nat → Int32
  | 0 => -5
  | i + 1 => if 0 < z i then nI i else eG z i
def eM (z : Nat → Nat) (all : Nat) : Nat → Int32
  | 0 => -5
  | i + 1 => if 0 < z i then (if eM z all i < 0 ∧ all ≤ 2 * fb_sm z (i + 1) then nI i else eM z all i) else eM z all i
def eU (z : Nat → Nat) (n : Nat) : Nat := fb_ct (fun i => decide (0 < z i)) n
def eX (z : Nat → Nat) : Nat → Int32
  | 0 => -5
  | i + 1 => if 0 < z i then (if eX z i < 0 ∨ z (eX z i).toNatClampNeg < z i then nI i else eX z i) else eX z i
theorem n5 : (-5 : Int32) < 0 := by decide
theorem eL_none {z : Nat → Nat} : ∀ n, (∀ k, k < n → z k = 0) → eL z n = -5
  | 0, _ => rfl
  | n + 1, h => by
    unfold eL
    rw [if_neg (by rw [h n (by omega)]; decide)]
    exact eL_none n (fun k hk => h k (by omega))
theorem eL_some {z : Nat → Nat} {k : Nat} (hk : k < 2 ^ 31) (h0 : ∀ i, i < k → z i = 0) (h1 : 0 < z k) : ∀ d, eL z (k + 1 + d) = nI k
  | 0 => by
    show (if 0 < z k then (if eL z k < 0 then nI k else eL z k) else eL z k) = nI k
    rw [if_pos h1, eL_none k h0, if_pos n5]
  | d + 1 => by
    have ih := eL_some hk h0 h1 d
    show (if 0 < z (k + 1 + d) then (if eL z (k + 1 + d) < 0 then nI (k + 1 + d) else eL z (k + 1 + d)) else eL z (k + 1 + d)) = nI k
    rw [ih, if_neg (nI_pos hk)]
    split <;> rfl
theorem eG_up {z : Nat → Nat} {k : Nat} : ∀ d, (∀ i, k ≤ i → i < k + d → z i = 0) → eG z (k + d) = eG z k
  | 0, _ => rfl
  | d + 1, h => by
    show (if 0 < z (k + d) then nI (k + d) else eG z (k + d)) = _
    rw [if_neg (by rw [h (k + d) (by omega) (by omega)]; decide)]
    exact eG_up d (fun i h1 h2 => h i h1 (by omega))
theorem eM_none {z : Nat → Nat} {all : Nat} : ∀ n, (∀ k, k < n → fb_sm z (k + 1) = 0 ∨ ¬ all ≤ 2 * fb_sm z (k + 1)) → eM z all n = -5
  | 0, _ => rfl
  | n + 1, h => by
    have ih := eM_none n (fun k hk => h k (by omega))
    unfold eM
    rw [ih]
    by_cases hz : 0 < z n
    · rw [if_pos hz, if_neg]
      rintro ⟨-, q⟩
      rcases h n (by omega) with g | g
      · rw [fb_sm_succ] at g; omega
      · exact g q
    · rw [if_neg hz]
theorem eM_some {z : Nat → Nat} {all k : Nat} (hk : k < 2 ^ 31) (h0 : ∀ i, i < k → fb_sm z (i + 1) = 0 ∨ ¬ all ≤ 2 * fb_sm z (i + 1)) (h1 : 0 < fb_sm z (k + 1)) (h2 : all ≤ 2 * fb_sm z (k + 1)) : ∀ d, eM z all (k + 1 + d) = nI k
  | 0 => by
    show (if 0 < z k then (if eM z all k < 0 ∧ all ≤ 2 * fb_sm z (k + 1) then nI k else eM z all k) else eM z all k) = nI k
    have hz : 0 < z k := by
      rcases Nat.eq_zero_or_pos (z k) with q | q
      · exfalso
        rw [fb_sm_succ, q, Nat.add_zero] at h1 h2
        cases k with
        | zero => simp [fb_sm] at h1
        | succ m => rcases h0 m (by omega) with g | g <;> omega
      · exact q
    rw [if_pos hz, eM_none k h0, if_pos ⟨n5, h2⟩]
  | d + 1 => by
    have ih := eM_some hk h0 h1 h2 d
    show (if 0 < z (k + 1 + d) then (if eM z all (k + 1 + d) < 0 ∧ all ≤ 2 * fb_sm z (k + 1 + d + 1) then nI (k + 1 + d) else eM z all (k + 1 + d)) else eM z all (k + 1 + d)) = nI k
    rw [ih]
    by_cases hz : 0 < z (k + 1 + d)
    · rw [if_pos hz, if_neg (fun q : nI k < 0 ∧ _ => nI_pos hk q.1)]
    · rw [if_neg hz]
section GROUPS
variable {G : zG} {sh : Nat → Option zSh} {S : zSt} {g r b n c k : Nat} {v : Nat → Nat → Nat} {f : Nat → Bool} {z : Nat → Nat}
/-- the sizes below i, and their sum -/
def grS (S0 : zSt) (g i : Nat) (z : Nat → Nat) (S : zSt) : Prop := frS S0 (fun b => g ≤ b ∧ b < g + 3) S ∧ zi S g 2 = nI (fb_sm z i) ∧ ∀ k, k < i → za S (g + 2) k = nI (z k)
theorem L_gfill {F : zFin} {sz : Nat} {S0 : zSt} (hT : tGroups sh g) (hb : sh b = some kB) (hRT : tRows sh r) (hd : (b < g ∨ g + 3 ≤ b) ∧ (r + 82 ≤ g ∨ g + 3 ≤ r)) (hB : rBits S0 b n f) (hR : rRows S0 r n v) (hn : n ≤ 120) (hc : c < 4)
    (kk : ∀ S', grS S0 g 16 (gct f v n c) S' → zW G m_Groups_fill (zRm (3) 0 0) F 0 0 73 [some (.ref g), some (.ref b), some (.ref r), some (.int (nI c)), some (.int (nI 16))] [] (zhp sh S') sz) :
    ∀ d i S, 16 - i = d → i ≤ 16 → grS S0 g i (gct f v n c) S → zW G m_Groups_fill (zRm (3) 0 0) F 0 0 8 [some (.ref g), some (.ref b), some (.ref r), some (.int (nI c)), some (.int (nI i))] [] (zhp sh S) sz := by
  obtain ⟨t1, t2, t3⟩ := hT
  intro d
  induction d with
  | zero =>
    intro i S h1 h2 h3
    have hi : i = 16 := by omega
    subst hi
    refine z_iload dX1_fill_8 rfl ?_
    refine z_bipush 16 dX1_fill_10 (by decide) ?_
    refine z_icmp_ge 73 dX1_fill_12 (by decide) (fun c12 => ?_) (fun c12 => ?_)
    · exact kk S h3
    · exact absurd (nI_le (a := 16) (b := 16) (Nat.le_refl _) (by decide)) c12
  | succ d ih =>
    intro i S h1 h2 h3
    have hB2 : rBits S b n f := hB.fr h3.1 (by omega)
    have hR2 : rRows S r n v := hR.fr h3.1 (fun x h1 h2 => by omega)
    have gl := gct_le f v n c i
    have cl : (nI i).toNatClampNeg = i := nI_clamp (by omega)
    refine z_iload dX1_fill_8 rfl ?_
    refine z_bipush 16 dX1_fill_10 (by decide) ?_
    refine z_icmp_ge 73 dX1_fill_12 (by decide) (fun c12 => ?_) (fun c12 => ?_)
    · exact absurd c12 (nI_ge (b := 16) (by omega) (by decide))
    · refine z_aload_n dX1_fill_15 rfl ?_
      refine s_getr f_Groups_12 dX1_fill_16 t1 rfl ?_
      refine z_aload_n dX1_fill_19 rfl ?_
      refine n_callV0 l_Groups_26 (C_Bits_become t2 hb) t2 dX1_fill_20 rfl rfl (Nat.le_of_ble_eq_true rfl) ⟨⟨by decide, by decide⟩, by decide, by decide⟩ (fun S20 q20 => ?_)
      refine z_aload_n dX1_fill_23 rfl ?_
      refine s_getr f_Groups_12 dX1_fill_24 t1 rfl ?_
      refine z_aload_n dX1_fill_27 rfl ?_
      refine z_iload_n dX1_fill_28 rfl ?_
      refine z_iload dX1_fill_29 rfl ?_
      refine s_callV1 l_Groups_30 (C_Rows_bitsOf hRT hc (by omega)) hRT.1 dX1_fill_31 rfl rfl (Nat.le_of_ble_eq_true rfl) ⟨⟨by decide, by decide⟩, by decide, by decide⟩ ?_
      refine n_callV0 l_Groups_36 (C_Bits_keep t2 (hRT.2.2 _ (by omega))) t2 dX1_fill_34 rfl rfl (Nat.le_of_ble_eq_true rfl) ⟨⟨by decide, by decide⟩, by decide, by decide⟩ (fun S34 q34 => ?_)
      refine z_aload_n dX1_fill_37 rfl ?_
      refine s_getr f_Groups_18 dX1_fill_38 t1 rfl ?_
      refine z_iload dX1_fill_41 rfl ?_
      refine z_aload_n dX1_fill_43 rfl ?_
      refine s_getr f_Groups_12 dX1_fill_44 t1 rfl ?_
      refine s_callV1 l_Groups_39 (C_Bits_ones t2) t2 dX1_fill_47 rfl rfl (Nat.le_of_ble_eq_true rfl) ⟨⟨by decide, by decide⟩, by decide, by decide⟩ ?_
      refine s_iast dX1_fill_50 t3 (vp_in_nI (by omega) (by decide)) ?_
      refine z_aload_n dX1_fill_51 rfl ?_
      refine z_dup dX1_fill_52 rfl ?_
      refine s_geti f_Groups_22 dX1_fill_53 t1 rfl ?_
      refine z_aload_n dX1_fill_56 rfl ?_
      refine s_getr f_Groups_18 dX1_fill_57 t1 rfl ?_
      refine z_iload dX1_fill_60 rfl ?_
      refine s_iald dX1_fill_62 t3 (vp_in_nI (by omega) (by decide)) ?_
      refine z_iadd dX1_fill_63 ?_
      refine s_puti f_Groups_22 dX1_fill_64 t1 rfl ⟨rfl, rfl⟩ ?_
      refine z_iinc (lv' := [_, _, _, _, _]) 1 dX1_fill_67 rfl (by decide) rfl rfl ?_
      refine z_goto 8 dX1_fill_70 (by decide) ?_
      have hR34 : rRows S20 r n v := hR2.fr (q20.lg (P := fun x => x = g + 1) rfl).fr (fun x h1 h2 => by omega)
      have hct : fb_ct (bq S34 (g + 1)) 128 = gct f v n c i := by
        have hb3 : rBits S34 (g + 1) n (fun j => f j && decide (v j c = i)) := fun j hj => by
          rw [q34.2.2.2.2 j hj]
          show (bq S20 (g + 1) j && bq S20 (r + 2 + (c * 20 + i)) j) = _
          rw [q20.2.2.2.2 j hj, hR34.2 _ (by omega) j hj, kq_at _ (by omega)]
          show (bq S b j && _) = (decide (j < n) && (f j && decide (v j c = i)))
          rw [hB2 j hj]
          unfold kb
          rw [if_pos (show i < 16 by omega)]
          cases decide (j < n) <;> cases f j <;> rfl
        rw [hb3.ct (by omega)]; rfl
      rw [nI_1, cl, hct, za_sa]
      refine ih (i + 1) _ (by omega) (by omega) ⟨?_, ?_, fun k hk => ?_⟩
      · refine (h3.1.trans ?_).trans ((frS.seta (by omega)).trans (frS.seti (by omega)))
        exact ((q20.lg (P := fun x => g ≤ x ∧ x < g + 3) (by omega)).trans (q34.lg (by omega))).fr
      · rw [zi_si, show zi S34 g 2 = zi S g 2 from congrFun (congrFun (q34.1.trans q20.1) g) 2, h3.2.1, nI_add, ← fb_sm_succ]
      · by_cases hki : k = i
        · subst hki; exact zup_same
        · refine (zup_ne (fun q => hki q.2)).trans ?_
          rw [q34.2.2.1, q20.2.2.1]
          exact h3.2.2 k (by omega)
theorem C_Groups_fill (hT : tGroups sh g) (hb : sh b = some kB) (hRT : tRows sh r) (hd : (b < g ∨ g + 3 ≤ b) ∧ (r + 82 ≤ g ∨ g + 3 ≤ r)) (hB : rBits S b n f) (hR : rRows S r n v) (hn : n ≤ 120) (hc : c < 4) : zN G m_Groups_fill 3 sh [.ref g, .ref b, .ref r, .int (nI c)] S none (grS S g 16 (gct f v n c)) := by
  refine s_meth 1 ⟨p_Groups, rfl, Nat.le_of_ble_eq_true rfl⟩ rfl (fun sz => ?_)
  refine z_aload_n dX1_fill_0 rfl ?_
  refine z_iconst 0 dX1_fill_1 rfl ?_
  refine s_puti f_Groups_22 dX1_fill_2 hT.1 rfl ⟨rfl, rfl⟩ ?_
  refine z_iconst 0 dX1_fill_5 rfl ?_
  refine z_istore (lv' := [_, _, _, _, _]) dX1_fill_6 (by decide) rfl ?_
  refine L_gfill hT hb hRT hd (hB.fr (frS.seti (P := fun x => x = g) rfl) (by omega)) (hR.fr (frS.seti (P := fun x => x = g) rfl) (fun x h1 h2 => by omega)) hn hc (fun S' h => ?_) 16 0 _ rfl (by decide) ⟨frS.rf, zi_si, fun k hk => absurd hk (Nat.not_lt_zero _)⟩
  refine z_return dX1_fill_73 rfl ⟨Nat.le_refl _, Nat.le_refl _⟩ ⟨rfl, _, rfl, rfl, ?_, h.2⟩
  exact (frS.seti (by omega)).trans h.1
def isZ (S : zSt) (g : Nat) (z : Nat → Nat) : Prop := ∀ k, k < 16 → za S (g + 2) k = nI (z k)
theorem L_gsum {F : zFin} {sz : Nat} (hT : tGroups sh g) (hz : isZ S g z) (kk : zW G m_Groups_sum (zRm (1) 0 0) F 0 0 27 [some (.ref g), some (.int (nI (fb_sm (fun k => k * z k) 16))), some (.int (nI 16))] [] (zhp sh S) sz) :
    ∀ d i, 16 - i = d → i ≤ 16 → zW G m_Groups_sum (zRm (1) 0 0) F 0 0 4 [some (.ref g), some (.int (nI (fb_sm (fun k => k * z k) i))), some (.int (nI i))] [] (zhp sh S) sz := by
  obtain ⟨t1, t2, t3⟩ := hT
  intro d
  induction d with
  | zero =>
    intro i h1 h2
    have hi : i = 16 := by omega
    subst hi
    refine z_iload_n dX1_sum_4 rfl ?_
    refine z_bipush 16 dX1_sum_5 (by decide) ?_
    refine z_icmp_ge 27 dX1_sum_7 (by decide) (fun c7 => ?_) (fun c7 => ?_)
    · exact kk
    · exact absurd (nI_le (a := 16) (b := 16) (Nat.le_refl _) (by decide)) c7
  | succ d ih =>
    intro i h1 h2
    have cl : (nI i).toNatClampNeg = i := nI_clamp (by omega)
    refine z_iload_n dX1_sum_4 rfl ?_
    refine z_bipush 16 dX1_sum_5 (by decide) ?_
    refine z_icmp_ge 27 dX1_sum_7 (by decide) (fun c7 => ?_) (fun c7 => ?_)
    · exact absurd c7 (nI_ge (b := 16) (by omega) (by decide))
    · refine z_iload_n dX1_sum_10 rfl ?_
      refine z_iload_n dX1_sum_11 rfl ?_
      refine z_aload_n dX1_sum_12 rfl ?_
      refine s_getr f_Groups_18 dX1_sum_13 (by assumption) rfl ?_
      refine z_iload_n dX1_sum_16 rfl ?_
      refine s_iald dX1_sum_17 t3 (vp_in_nI (by omega) (by decide)) ?_
      refine z_imul dX1_sum_18 ?_
      refine z_iadd dX1_sum_19 ?_
      refine z_istore_n (lv' := [_, _, _]) dX1_sum_20 (by decide) rfl ?_
      refine z_iinc (lv' := [_, _, _]) 1 dX1_sum_21 rfl (by decide) rfl rfl ?_
      refine z_goto 4 dX1_sum_24 (by decide) ?_
      rw [nI_1, cl, hz i (by omega), nI_mulN, nI_add]
      exact ih (i + 1) (by omega) (by omega)
theorem C_Groups_sum (hT : tGroups sh g) (hz : isZ S g z) : zD G m_Groups_sum 1 sh [.ref g] S (some (.int (nI (fb_sm (fun k => k * z k) 16)))) S := by
  refine s_methD 2 ⟨p_Groups, rfl, Nat.le_of_ble_eq_true rfl⟩ rfl (fun sz => ?_)
  refine z_iconst 0 dX1_sum_0 rfl ?_
  refine z_istore_n (lv' := [_, _, _]) dX1_sum_1 (by decide) rfl ?_
  refine z_iconst 0 dX1_sum_2 rfl ?_
  refine z_istore_n (lv' := [_, _, _]) dX1_sum_3 (by decide) rfl ?_
  refine L_gsum hT hz ?_ 16 0 rfl (by decide)
  refine z_iload_n dX1_sum_27 rfl ?_
  refine z_ireturn dX1_sum_28 rfl rfl ⟨Nat.le_refl _, Nat.le_refl _⟩ ?_
  exact ⟨rfl, rfl, rfl⟩
theorem nI_m1 (i : Nat) : nI (i + 1) + -1 = nI i := by
  rw [← Int32.sub_eq_add_neg]
  exact nI_pred i
theorem n0I {m : Nat} (h : m < 2 ^ 31) : nI m ≤ 0 ↔ m = 0 := by
  constructor
  · intro q
    rcases Nat.eq_zero_or_pos m with e | e
    · exact e
    · exact absurd q (nI_nle e h)
  · intro q; subst q; decide
theorem C_Groups_least (hT : tGroups sh g) (hz : isZ S g z) (hzb : ∀ k, z k < 2 ^ 31) : zD G m_Groups_least 1 sh [.ref g] S (some (.int (eL z 16))) S := by
  obtain ⟨t1, t2, t3⟩ := hT
  refine s_methD 1 ⟨p_Groups, rfl, Nat.le_of_ble_eq_true rfl⟩ rfl (fun sz => ?_)
  have loop : ∀ d i, 16 - i = d → i ≤ 16 → (∀ k, k < i → z k = 0) → zW G m_Groups_least (zRm 1 0 0) (zFm G (zQe (some (.int (eL z 16))) (zhp sh S) sz) 0 0) 0 0 2 [some (.ref g), some (.int (nI i))] [] (zhp sh S) sz := by
    intro d
    induction d with
    | zero =>
      intro i h1 h2 h3
      have hi : i = 16 := by omega
      subst hi
      refine z_iload_n dX1_least_2 rfl ?_
      refine z_bipush 16 dX1_least_3 (by decide) ?_
      refine z_icmp_ge 25 dX1_least_5 (by decide) (fun c5 => ?_) (fun c5 => ?_)
      · refine z_bipush (-5) dX1_least_25 (by decide) ?_
        refine z_ireturn dX1_least_27 rfl rfl ⟨Nat.le_refl _, Nat.le_refl _⟩ ?_
        rw [eL_none 16 h3]
        exact ⟨rfl, rfl, rfl⟩
      · exact absurd (nI_le (a := 16) (b := 16) (Nat.le_refl _) (by decide)) c5
    | succ d ih =>
      intro i h1 h2 h3
      have cl : (nI i).toNatClampNeg = i := nI_clamp (by omega)
      refine z_iload_n dX1_least_2 rfl ?_
      refine z_bipush 16 dX1_least_3 (by decide) ?_
      refine z_icmp_ge 25 dX1_least_5 (by decide) (fun c5 => ?_) (fun c5 => ?_)
      · exact absurd c5 (nI_ge (b := 16) (by omega) (by decide))
      · refine z_aload_n dX1_least_8 rfl ?_
        refine s_getr f_Groups_18 dX1_least_9 (by assumption) rfl ?_
        refine z_iload_n dX1_least_12 rfl ?_
        refine s_iald dX1_least_13 t3 (vp_in_nI (by omega) (by decide)) ?_
        refine z_if_le 19 dX1_least_14 (by decide) (fun c14 => ?_) (fun c14 => ?_)
        · rw [cl, hz i (by omega), n0I (hzb i)] at c14
          refine z_iinc (lv' := [_, _]) 1 dX1_least_19 rfl (by decide) rfl rfl ?_
          refine z_goto 2 dX1_least_22 (by decide) ?_
          rw [nI_1]
          exact ih (i + 1) (by omega) (by omega) (fun k hk => if e : k = i then by rw [e]; exact c14 else h3 k (by omega))
        · rw [cl, hz i (by omega), n0I (hzb i)] at c14
          refine z_iload_n dX1_least_17 rfl ?_
          refine z_ireturn dX1_least_18 rfl rfl ⟨Nat.le_refl _, Nat.le_refl _⟩ ?_
          have e := eL_some (z := z) (k := i) (by omega) h3 (by omega) (15 - i)
          rw [show i + 1 + (15 - i) = 16 by omega] at e
          rw [e]
          exact ⟨rfl, rfl, rfl⟩
  refine z_iconst 0 dX1_least_0 rfl ?_
  refine z_istore_n (lv' := [_, _]) dX1_least_1 (by decide) rfl ?_
  exact loop 16 0 rfl (by decide) (fun k hk => absurd hk (Nat.not_lt_zero _))
theorem C_Groups_greatest (hT : tGroups sh g) (hz : isZ S g z) (hzb : ∀ k, z k < 2 ^ 31) : zD G m_Groups_greatest 1 sh [.ref g] S (some (.int (eG z 16))) S := by
  obtain ⟨t1, t2, t3⟩ := hT
  refine s_methD 1 ⟨p_Groups, rfl, Nat.le_of_ble_eq_true rfl⟩ rfl (fun sz => ?_)
  have stop : (∀ k, k < 16 → z k = 0) → zW G m_Groups_greatest (zRm 1 0 0) (zFm G (zQe (some (.int (eG z 16))) (zhp sh S) sz) 0 0) 0 0 3 [some (.ref g), some (.int (-1))] [] (zhp sh S) sz := fun h3 => by
    have e := eG_up (z := z) (k := 0) 16 (fun i _ h => h3 i (by omega))
    rw [show 0 + 16 = 16 from rfl] at e
    refine z_iload_n dX1_greatest_3 rfl ?_
    refine z_if_lt 24 dX1_greatest_4 (by decide) (fun c4 => ?_) (fun c4 => ?_)
    · refine z_bipush (-5) dX1_greatest_24 (by decide) ?_
      refine z_ireturn dX1_greatest_26 rfl rfl ⟨Nat.le_refl _, Nat.le_refl _⟩ ?_
      rw [e]
      exact ⟨rfl, rfl, rfl⟩
    · exact absurd (show (-1 : Int32) < 0 by decide) c4
  have loop : ∀ i, i < 16 → (∀ k, i < k → k < 16 → z k = 0) → zW G m_Groups_greatest (zRm 1 0 0) (zFm G (zQe (some (.int (eG z 16))) (zhp sh S) sz) 0 0) 0 0 3 [some (.ref g), some (.int (nI i))] [] (zhp sh S) sz := by
    intro i
    induction i with
    | zero =>
      intro h1 h3
      have e := eG_up (z := z) (k := 1) 15 (fun k q1 q2 => h3 k (by omega) (by omega))
      refine z_iload_n dX1_greatest_3 rfl ?_
      refine z_if_lt 24 dX1_greatest_4 (by decide) (fun c4 => ?_) (fun c4 => ?_)
      · exact absurd c4 (nI_pos (n := 0) (by decide))
      · refine z_aload_n dX1_greatest_7 rfl ?_
        refine s_getr f_Groups_18 dX1_greatest_8 (by assumption) rfl ?_
        refine z_iload_n dX1_greatest_11 rfl ?_
        refine s_iald dX1_greatest_12 t3 (vp_in_nI (by omega) (by decide)) ?_
        refine z_if_le 18 dX1_greatest_13 (by decide) (fun c13 => ?_) (fun c13 => ?_)
        · rw [show (nI 0).toNatClampNeg = 0 from rfl, hz 0 (by omega), n0I (hzb 0)] at c13
          refine z_iinc (lv' := [_, _]) (-1) dX1_greatest_18 rfl (by decide) rfl rfl ?_
          refine z_goto 3 dX1_greatest_21 (by decide) ?_
          exact stop (fun k hk => if e : k = 0 then by rw [e]; exact c13 else h3 k (by omega) hk)
        · rw [show (nI 0).toNatClampNeg = 0 from rfl, hz 0 (by omega), n0I (hzb 0)] at c13
          refine z_iload_n dX1_greatest_16 rfl ?_
          refine z_ireturn dX1_greatest_17 rfl rfl ⟨Nat.le_refl _, Nat.le_refl _⟩ ?_
          rw [show eG z 16 = nI 0 from e.trans (if_pos (Nat.pos_of_ne_zero c13))]
          exact ⟨rfl, rfl, rfl⟩
    | succ i ih =>
      intro h1 h3
      have cl : (nI (i + 1)).toNatClampNeg = i + 1 := nI_clamp (by omega)
      have e := eG_up (z := z) (k := i + 2) (14 - i) (fun k q1 q2 => h3 k (by omega) (by omega))
      rw [show i + 2 + (14 - i) = 16 by omega] at e
      refine z_iload_n dX1_greatest_3 rfl ?_
      refine z_if_lt 24 dX1_greatest_4 (by decide) (fun c4 => ?_) (fun c4 => ?_)
      · exact absurd c4 (nI_pos (by omega))
      · refine z_aload_n dX1_greatest_7 rfl ?_
        refine s_getr f_Groups_18 dX1_greatest_8 (by assumption) rfl ?_
        refine z_iload_n dX1_greatest_11 rfl ?_
        refine s_iald dX1_greatest_12 t3 (vp_in_nI (by omega) (by decide)) ?_
        refine z_if_le 18 dX1_greatest_13 (by decide) (fun c13 => ?_) (fun c13 => ?_)
        · rw [cl, hz (i + 1) (by omega), n0I (hzb _)] at c13
          refine z_iinc (lv' := [_, _]) (-1) dX1_greatest_18 rfl (by decide) rfl rfl ?_
          refine z_goto 3 dX1_greatest_21 (by decide) ?_
          rw [nI_m1]
          exact ih (by omega) (fun k q1 q2 => if e : k = i + 1 then by rw [e]; exact c13 else h3 k (by omega) q2)
        · rw [cl, hz (i + 1) (by omega), n0I (hzb _)] at c13
          refine z_iload_n dX1_greatest_16 rfl ?_
          refine z_ireturn dX1_greatest_17 rfl rfl ⟨Nat.le_refl _, Nat.le_refl _⟩ ?_
          rw [show eG z 16 = nI (i + 1) from e.trans (if_pos (Nat.pos_of_ne_zero c13))]
          exact ⟨rfl, rfl, rfl⟩
  refine z_bipush 15 dX1_greatest_0 (by decide) ?_
  refine z_istore_n (lv' := [_, _]) dX1_greatest_2 (by decide) rfl ?_
  exact loop 15 (by decide) (fun k q1 q2 => by omega)
theorem C_Groups_middle {all : Nat} (hT : tGroups sh g) (hz : isZ S g z) (hA : zi S g 2 = nI all) (ha : all < 2 ^ 30) (hzb : ∀ k, k ≤ 16 → fb_sm z k < 2 ^ 30) : zD G m_Groups_middle 1 sh [.ref g] S (some (.int (eM z all 16))) S := by
  obtain ⟨t1, t2, t3⟩ := hT
  refine s_methD 2 ⟨p_Groups, rfl, Nat.le_of_ble_eq_true rfl⟩ rfl (fun sz => ?_)
  have loop : ∀ d i, 16 - i = d → i ≤ 16 → (∀ k, k < i → fb_sm z (k + 1) = 0 ∨ ¬ all ≤ 2 * fb_sm z (k + 1)) → zW G m_Groups_middle (zRm 1 0 0) (zFm G (zQe (some (.int (eM z all 16))) (zhp sh S) sz) 0 0) 0 0 4 [some (.ref g), some (.int (nI (fb_sm z i))), some (.int (nI i))] [] (zhp sh S) sz := by
    intro d
    induction d with
    | zero =>
      intro i h1 h2 h3
      have hi : i = 16 := by omega
      subst hi
      refine z_iload_n dX1_middle_4 rfl ?_
      refine z_bipush 16 dX1_middle_5 (by decide) ?_
      refine z_icmp_ge 41 dX1_middle_7 (by decide) (fun c7 => ?_) (fun c7 => ?_)
      · refine z_bipush (-5) dX1_middle_41 (by decide) ?_
        refine z_ireturn dX1_middle_43 rfl rfl ⟨Nat.le_refl _, Nat.le_refl _⟩ ?_
        rw [eM_none 16 h3]
        exact ⟨rfl, rfl, rfl⟩
      · exact absurd (nI_le (a := 16) (b := 16) (Nat.le_refl _) (by decide)) c7
    | succ d ih =>
      intro i h1 h2 h3
      have cl : (nI i).toNatClampNeg = i := nI_clamp (by omega)
      have hb := hzb (i + 1) (by omega)
      refine z_iload_n dX1_middle_4 rfl ?_
      refine z_bipush 16 dX1_middle_5 (by decide) ?_
      refine z_icmp_ge 41 dX1_middle_7 (by decide) (fun c7 => ?_) (fun c7 => ?_)
      · exact absurd c7 (nI_ge (b := 16) (by omega) (by decide))
      · refine z_iload_n dX1_middle_10 rfl ?_
        refine z_aload_n dX1_middle_11 rfl ?_
        refine s_getr f_Groups_18 dX1_middle_12 (by assumption) rfl ?_
        refine z_iload_n dX1_middle_15 rfl ?_
        refine s_iald dX1_middle_16 t3 (vp_in_nI (by omega) (by decide)) ?_
        refine z_iadd dX1_middle_17 ?_
        rw [cl, hz i (by omega), nI_add, ← fb_sm_succ]
        refine z_istore_n (lv' := [_, _, _]) dX1_middle_18 (by decide) rfl ?_
        refine z_iload_n dX1_middle_19 rfl ?_
        refine z_if_le 35 dX1_middle_20 (by decide) (fun c20 => ?_) (fun c20 => ?_)
        · rw [n0I (by omega)] at c20
          have hno : fb_sm z (i + 1) = 0 ∨ ¬ all ≤ 2 * fb_sm z (i + 1) := Or.inl c20
          refine z_iinc (lv' := [_, _, _]) 1 dX1_middle_35 rfl (by decide) rfl rfl ?_
          refine z_goto 4 dX1_middle_38 (by decide) ?_
          rw [nI_1]
          exact ih (i + 1) (by omega) (by omega) (fun k hk => if e : k = i then by rw [e]; exact hno else h3 k (by omega))
        · rw [n0I (by omega)] at c20
          refine z_iload_n dX1_middle_23 rfl ?_
          refine z_iconst 2 dX1_middle_24 rfl ?_
          refine z_imul dX1_middle_25 ?_
          refine z_aload_n dX1_middle_26 rfl ?_
          refine s_geti f_Groups_22 dX1_middle_27 (by assumption) rfl ?_
          rw [hA, show (2 : Int32) = nI 2 from rfl, nI_mulN]
          refine z_icmp_lt 35 dX1_middle_30 (by decide) (fun c30 => ?_) (fun c30 => ?_)
          · rw [nI_ltI (by omega) (by omega)] at c30
            have hno : fb_sm z (i + 1) = 0 ∨ ¬ all ≤ 2 * fb_sm z (i + 1) := Or.inr (by omega)
            refine z_iinc (lv' := [_, _, _]) 1 dX1_middle_35 rfl (by decide) rfl rfl ?_
            refine z_goto 4 dX1_middle_38 (by decide) ?_
            rw [nI_1]
            exact ih (i + 1) (by omega) (by omega) (fun k hk => if e : k = i then by rw [e]; exact hno else h3 k (by omega))
          · rw [nI_ltI (by omega) (by omega)] at c30
            refine z_iload_n dX1_middle_33 rfl ?_
            refine z_ireturn dX1_middle_34 rfl rfl ⟨Nat.le_refl _, Nat.le_refl _⟩ ?_
            have e := eM_some (z := z) (all := all) (k := i) (by omega) h3 (by omega) (by omega) (15 - i)
            rw [show i + 1 + (15 - i) = 16 by omega] at e
            rw [e]
            exact ⟨rfl, rfl, rfl⟩
  refine z_iconst 0 dX1_middle_0 rfl ?_
  refine z_istore_n (lv' := [_, _, _]) dX1_middle_1 (by decide) rfl ?_
  refine z_iconst 0 dX1_middle_2 rfl ?_
  refine z_istore_n (lv' := [_, _, _]) dX1_middle_3 (by decide) rfl ?_
  exact loop 16 0 rfl (by decide) (fun k hk => absurd hk (Nat.not_lt_zero _))
theorem C_Groups_unlike (hT : tGroups sh g) (hz : isZ S g z) (hzb : ∀ k, z k < 2 ^ 31) : zD G m_Groups_unlike 1 sh [.ref g] S (some (.int (nI (eU z 16)))) S := by
  obtain ⟨t1, t2, t3⟩ := hT
  refine s_methD 2 ⟨p_Groups, rfl, Nat.le_of_ble_eq_true rfl⟩ rfl (fun sz => ?_)
  have loop : ∀ d i, 16 - i = d → i ≤ 16 → zW G m_Groups_unlike (zRm 1 0 0) (zFm G (zQe (some (.int (nI (eU z 16)))) (zhp sh S) sz) 0 0) 0 0 4 [some (.ref g), some (.int (nI (eU z i))), some (.int (nI i))] [] (zhp sh S) sz := by
    intro d
    induction d with
    | zero =>
      intro i h1 h2
      have hi : i = 16 := by omega
      subst hi
      refine z_iload_n dX1_unlike_4 rfl ?_
      refine z_bipush 16 dX1_unlike_5 (by decide) ?_
      refine z_icmp_ge 28 dX1_unlike_7 (by decide) (fun c7 => ?_) (fun c7 => ?_)
      · refine z_iload_n dX1_unlike_28 rfl ?_
        refine z_ireturn dX1_unlike_29 rfl rfl ⟨Nat.le_refl _, Nat.le_refl _⟩ ?_
        exact ⟨rfl, rfl, rfl⟩
      · exact absurd (nI_le (a := 16) (b := 16) (Nat.le_refl _) (by decide)) c7
    | succ d ih =>
      intro i h1 h2
      have cl : (nI i).toNatClampNeg = i := nI_clamp (by omega)
      have e : eU z (i + 1) = eU z i + (if decide (0 < z i) = true then 1 else 0) := fb_ct_succ _ _
      refine z_iload_n dX1_unlike_4 rfl ?_
      refine z_bipush 16 dX1_unlike_5 (by decide) ?_
      refine z_icmp_ge 28 dX1_unlike_7 (by decide) (fun c7 => ?_) (fun c7 => ?_)
      · exact absurd c7 (nI_ge (b := 16) (by omega) (by decide))
      · refine z_aload_n dX1_unlike_10 rfl ?_
        refine s_getr f_Groups_18 dX1_unlike_11 (by assumption) rfl ?_
        refine z_iload_n dX1_unlike_14 rfl ?_
        refine s_iald dX1_unlike_15 t3 (vp_in_nI (by omega) (by decide)) ?_
        refine z_if_le 22 dX1_unlike_16 (by decide) (fun c16 => ?_) (fun c16 => ?_)
        · rw [cl, hz i (by omega), n0I (hzb _)] at c16
          rw [if_neg (by simp [c16])] at e
          refine z_iinc (lv' := [_, _, _]) 1 dX1_unlike_22 rfl (by decide) rfl rfl ?_
          refine z_goto 4 dX1_unlike_25 (by decide) ?_
          simp only [nI_1]
          have ih2 := ih (i + 1) (by omega) (by omega)
          rw [e] at ih2
          exact ih2
        · rw [cl, hz i (by omega), n0I (hzb _)] at c16
          rw [if_pos (by simp; omega)] at e
          refine z_iinc (lv' := [_, _, _]) 1 dX1_unlike_19 rfl (by decide) rfl rfl ?_
          refine z_iinc (lv' := [_, _, _]) 1 dX1_unlike_22 rfl (by decide) rfl rfl ?_
          refine z_goto 4 dX1_unlike_25 (by decide) ?_
          simp only [nI_1]
          have ih2 := ih (i + 1) (by omega) (by omega)
          rw [e] at ih2
          exact ih2
  refine z_iconst 0 dX1_unlike_0 rfl ?_
  refine z_istore_n (lv' := [_, _, _]) dX1_unlike_1 (by decide) rfl ?_
  refine z_iconst 0 dX1_unlike_2 rfl ?_
  refine z_istore_n (lv' := [_, _, _]) dX1_unlike_3 (by decide) rfl ?_
  exact loop 16 0 rfl (by decide)
theorem C_Groups_greatestGroup (hT : tGroups sh g) (hz : isZ S g z) (hzb : ∀ k, z k < 2 ^ 31) : zD G m_Groups_greatestGroup 1 sh [.ref g] S (some (.int (eX z 16))) S := by
  obtain ⟨t1, t2, t3⟩ := hT
  refine s_methD 3 ⟨p_Groups, rfl, Nat.le_of_ble_eq_true rfl⟩ rfl (fun sz => ?_)
  have loop : ∀ d i m, 16 - i = d → i ≤ 16 → ((eX z i = -5 ∧ m = 0 ∧ ∀ k, k < i → z k = 0) ∨ (∃ b, b < i ∧ eX z i = nI b ∧ m = z b ∧ 0 < m)) → zW G m_Groups_greatestGroup (zRm 1 0 0) (zFm G (zQe (some (.int (eX z 16))) (zhp sh S) sz) 0 0) 0 0 7 [some (.ref g), some (.int (nI m)), some (.int (eX z i)), some (.int (nI i))] [] (zhp sh S) sz := by
    intro d
    induction d with
    | zero =>
      intro i m h1 h2 h3
      have hi : i = 16 := by omega
      subst hi
      refine z_iload_n dX1_greatestGroup_7 rfl ?_
      refine z_bipush 16 dX1_greatestGroup_8 (by decide) ?_
      refine z_icmp_ge 38 dX1_greatestGroup_10 (by decide) (fun c10 => ?_) (fun c10 => ?_)
      · refine z_iload_n dX1_greatestGroup_38 rfl ?_
        refine z_ireturn dX1_greatestGroup_39 rfl rfl ⟨Nat.le_refl _, Nat.le_refl _⟩ ?_
        exact ⟨rfl, rfl, rfl⟩
      · exact absurd (nI_le (a := 16) (b := 16) (Nat.le_refl _) (by decide)) c10
    | succ d ih =>
      intro i m h1 h2
      have hd1 : 16 - (i + 1) = d := by omega
      have hd2 : i + 1 ≤ 16 := by omega
      intro h3
      have cl : (nI i).toNatClampNeg = i := nI_clamp (by omega)
      have hm : m < 2 ^ 31 := by
        rcases h3 with ⟨-, rfl, -⟩ | ⟨b, -, -, rfl, -⟩
        · decide
        · exact hzb b
      have e : eX z (i + 1) = if 0 < z i then (if eX z i < 0 ∨ z (eX z i).toNatClampNeg < z i then nI i else eX z i) else eX z i := rfl
      refine z_iload_n dX1_greatestGroup_7 rfl ?_
      refine z_bipush 16 dX1_greatestGroup_8 (by decide) ?_
      refine z_icmp_ge 38 dX1_greatestGroup_10 (by decide) (fun c10 => ?_) (fun c10 => ?_)
      · exact absurd c10 (nI_ge (b := 16) (by omega) (by decide))
      · refine z_aload_n dX1_greatestGroup_13 rfl ?_
        refine s_getr f_Groups_18 dX1_greatestGroup_14 (by assumption) rfl ?_
        refine z_iload_n dX1_greatestGroup_17 rfl ?_
        refine s_iald dX1_greatestGroup_18 t3 (vp_in_nI (by omega) (by decide)) ?_
        refine z_iload_n dX1_greatestGroup_19 rfl ?_
        refine z_icmp_le 32 dX1_greatestGroup_20 (by decide) (fun c20 => ?_) (fun c20 => ?_)
        · rw [cl, hz i (by omega), nI_leI (hzb _) hm] at c20
          have e2 : eX z (i + 1) = eX z i := by
            rw [e]
            by_cases hp : 0 < z i
            · rw [if_pos hp, if_neg]
              rcases h3 with ⟨_, q2, -⟩ | ⟨b, hb, q1, q2, q3⟩
              · omega
              · rw [q1, nI_clamp (by omega)]
                rintro (q | q)
                · exact nI_pos (by omega) q
                · omega
            · rw [if_neg hp]
          refine z_iinc (lv' := [_, _, _, _]) 1 dX1_greatestGroup_32 rfl (by decide) rfl rfl ?_
          refine z_goto 7 dX1_greatestGroup_35 (by decide) ?_
          rw [nI_1, ← e2]
          refine ih (i + 1) _ hd1 hd2 ?_
          first
            | (rcases h3 with ⟨q1, q2, q3⟩ | ⟨b, hb, q1, q2, q3⟩
               · exact Or.inl ⟨e2.trans q1, q2, fun k hk => if ek : k = i then by rw [ek]; omega else q3 k (by omega)⟩
               · exact Or.inr ⟨b, by omega, e2.trans q1, q2, q3⟩)
            | exact Or.inr ⟨i, by omega, e2, rfl, by omega⟩
        · rw [cl, hz i (by omega), nI_leI (hzb _) hm] at c20
          have e2 : eX z (i + 1) = nI i := by
            rw [e, if_pos (by omega), if_pos]
            rcases h3 with ⟨q1, -, -⟩ | ⟨b, hb, q1, q2, q3⟩
            · exact Or.inl (by rw [q1]; decide)
            · rw [q1, nI_clamp (by omega)]
              exact Or.inr (by omega)
          refine z_aload_n dX1_greatestGroup_23 rfl ?_
          refine s_getr f_Groups_18 dX1_greatestGroup_24 (by assumption) rfl ?_
          refine z_iload_n dX1_greatestGroup_27 rfl ?_
          refine s_iald dX1_greatestGroup_28 t3 (vp_in_nI (by omega) (by decide)) ?_
          refine z_istore_n (lv' := [_, _, _, _]) dX1_greatestGroup_29 (by decide) rfl ?_
          rw [cl, hz i (by omega)]
          refine z_iload_n dX1_greatestGroup_30 rfl ?_
          refine z_istore_n (lv' := [_, _, _, _]) dX1_greatestGroup_31 (by decide) rfl ?_
          refine z_iinc (lv' := [_, _, _, _]) 1 dX1_greatestGroup_32 rfl (by decide) rfl rfl ?_
          refine z_goto 7 dX1_greatestGroup_35 (by decide) ?_
          rw [nI_1, ← e2]
          refine ih (i + 1) _ hd1 hd2 ?_
          first
            | (rcases h3 with ⟨q1, q2, q3⟩ | ⟨b, hb, q1, q2, q3⟩
               · exact Or.inl ⟨e2.trans q1, q2, fun k hk => if ek : k = i then by rw [ek]; omega else q3 k (by omega)⟩
               · exact Or.inr ⟨b, by omega, e2.trans q1, q2, q3⟩)
            | exact Or.inr ⟨i, by omega, e2, rfl, by omega⟩
  refine z_iconst 0 dX1_greatestGroup_0 rfl ?_
  refine z_istore_n (lv' := [_, _, _, _]) dX1_greatestGroup_1 (by decide) rfl ?_
  refine z_bipush (-5) dX1_greatestGroup_2 (by decide) ?_
  refine z_istore_n (lv' := [_, _, _, _]) dX1_greatestGroup_4 (by decide) rfl ?_
  refine z_iconst 0 dX1_greatestGroup_5 rfl ?_
  refine z_istore_n (lv' := [_, _, _, _]) dX1_greatestGroup_6 (by decide) rfl ?_
  exact loop 16 0 0 rfl (by decide) (Or.inl ⟨rfl, rfl, fun k hk => absurd hk (Nat.not_lt_zero _)⟩)
end GROUPS

