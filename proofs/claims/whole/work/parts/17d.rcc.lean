/-! ===== RunColumns: queries ===== -/
theorem kOne_rB {S : zSt} {a n : Nat} {f : Nat → Bool} {k : Int32} (h : rBits S a n f) (hn : n ≤ 128) : kOne (bq S a) n k = kOne f n k := kOne_cong (by omega) (fun j hj => by rw [h j (by omega)]; simp [hj])
theorem btwL : ∀ s, s < 7 → btw 0 3 (nI s) = decide (s ≤ 3) := by decide +kernel
theorem btwN : ∀ s, s < 7 → btw 4 4 (nI s) = decide (s = 4) := by decide +kernel
theorem wfQ.s7 {nd : Nd} {N : Nat} {stk : Nat → List Nat} (h : wfQ nd N stk) {i : Nat} (hi : i < N) : nS nd i < 7 := by
  rcases (h.2.2.2.2.2 i hi).1 with ⟨q, -⟩ | ⟨q, -⟩ | ⟨q, -⟩ <;> omega
abbrev qct (w : Wd) (k : Nat) : Nat := fb_ct (qI w k).1 (aN (wA w))
/-- what of answers -/
def ofA (w : Wd) (k : Nat) : Nat → Int32
  | 0 => nI (qct w k)
  | 1 => nI (runsN (qI w k).1 (aN (wA w)))
  | 2 => nI (qI w k).2.1
  | 3 => kOne (qI w k).1 (aN (wA w)) 0
  | 4 => kOne (qI w k).1 (aN (wA w)) (nI (qct w k) - 1)
  | 5 => nI (fb_ct (fun i => decide (nS (wnd w k) i ≤ 3)) (wN w k))
  | 6 => nI (fb_ct (fun i => decide (nS (wnd w k) i = 4)) (wN w k))
  | _ => nI (qI w k).2.2
/-- what edge answers -/
def edA (w : Wd) (k c : Nat) : Nat → Int32
  | 0 => eL (gct (qI w k).1 (aV (wA w)) (aN (wA w)) c) 16
  | 1 => eG (gct (qI w k).1 (aV (wA w)) (aN (wA w)) c) 16
  | 2 => eM (gct (qI w k).1 (aV (wA w)) (aN (wA w)) c) (qct w k) 16
  | 3 => nI (eU (gct (qI w k).1 (aV (wA w)) (aN (wA w)) c) 16)
  | _ => eX (gct (qI w k).1 (aV (wA w)) (aN (wA w)) c) 16
def bothF (f g : Nat → Bool) : Nat → Bool := fun j => f j && g j
def oneF (f g : Nat → Bool) : Nat → Bool := fun j => f j && !g j
theorem ct_one (f g : Nat → Bool) (n : Nat) : fb_ct f n = fb_ct (bothF f g) n + fb_ct (oneF f g) n := by
  rw [← fb_ct_or (p := bothF f g) (q := oneF f g) (fun k hk => by unfold bothF oneF; cases f k <;> cases g k <;> simp)]
  exact fb_ct_cong (fun j hj => by unfold bothF oneF; cases f j <;> cases g j <;> rfl)
theorem bothF_c (f g : Nat → Bool) (n : Nat) : fb_ct (bothF f g) n = fb_ct (bothF g f) n := fb_ct_cong (fun j hj => by unfold bothF; cases f j <;> cases g j <;> rfl)
/-- what two answers -/
def twA (w : Wd) (k l : Nat) : Nat → Int32
  | 0 => nI (fb_ct (bothF (qI w k).1 (qI w l).1) (aN (wA w)))
  | 1 => nI (fb_ct (bothF (qI w k).1 (qI w l).1) (aN (wA w)) + fb_ct (oneF (qI w k).1 (qI w l).1) (aN (wA w)) + fb_ct (oneF (qI w l).1 (qI w k).1) (aN (wA w)))
  | 2 => nI (fb_ct (oneF (qI w k).1 (qI w l).1) (aN (wA w)))
  | 3 => if fb_ct (oneF (qI w k).1 (qI w l).1) (aN (wA w)) + fb_ct (oneF (qI w l).1 (qI w k).1) (aN (wA w)) = 0 then 1 else 0
  | _ => if fb_ct (oneF (qI w k).1 (qI w l).1) (aN (wA w)) = 0 then 1 else 0
/-- bounds: from 15 down -/
def bdS (p : Nat → Bool) : Nat → Int32 × Nat
  | 0 => (-5, 0)
  | i + 1 => if p (15 - i) = true then (nI (15 - i), (bdS p i).2 + 1) else bdS p i
/-- part of a fraction -/
def lowA (a b : Nat) (p : Int32) : Int64 := if b = 0 then -9223372036854775808 else (nI ((if p = 0 then a else b) / Nat.gcd a b)).toInt64
/-- the first for which it is so -/
def ffN (p : Nat → Bool) : Nat → Nat → Int32
  | 0, _ => -5
  | d + 1, i => if p i = true then nI i else ffN p d (i + 1)
/-- judged, from row i on -/
def jdN (f : Nat → Bool) (it : Nat → Int64) (z : Nat) (y : Int32) : Nat → Nat → Int32
  | 0, _ => -5
  | d + 1, r => if y < 0 ∨ nI z - nI r ≤ y then 1000 + nI r else if decide (it (y.toNatClampNeg + r) ≠ 0) = f r then jdN f it z y d (r + 1) else nI r
theorem nI_i1 (n : Nat) : nI n - nI 0 = nI n := by rw [show nI 0 = 0 from rfl, Int32.sub_zero]
section RCC
variable {G : zG} {sh : Nat → Option zSh} {S : zSt} {x a n c k : Nat} {w : Wd} {P : Option Value → zSt → Prop}
theorem C_RC_resultOf (hT : tRC sh x) (hR : rRC S x w) (hW : wOK w) (hk : k < wq w) : zN G m_RC_resultOf 6 sh [.ref x, .int (nI k)] S (some (.ref (x + 191 + 4))) (fun S' => frS S (inWork (x + 191)) S' ∧ rBits S' (x + 191 + 4) (aN (wA w)) (qI w k).1) := by
  obtain ⟨t0, t1, t2, t3, ⟨t4, t4q⟩, ⟨t5, t5t⟩, t6, t7, t8, t9, t10⟩ := id hT
  obtain ⟨u0, u1, u2, u3, u4, u5⟩ := id t1
  have u1a := u1.1
  obtain ⟨r0, rc, rh, rh2, ⟨rq8, rq0, rq⟩, ⟨rL, rtx⟩, rt⟩ := id hR
  obtain ⟨v0, v1, v2, v3, v4, v5⟩ := id r0
  have z0 : zi S (x + 1 + 1) 1 = nI (aN (wA w)) := v0.1
  obtain ⟨g0, gi, ⟨g2, g2q⟩, ⟨g3, g3x⟩, g4⟩ := id hW
  obtain ⟨⟨b1, b2, b3, b4, b5⟩, ⟨e1, e2, e3, e4, e5⟩, eV, eM, eMo, eS, eB⟩ := id g0
  have hv : ∀ j, j < aN (wA w) → ∀ c, c < 4 → aV (wA w) j c < 16 := fun j hj c hc => (eV j hj c hc).2
  have t6a := t6.1
  refine s_meth 0 ⟨p_RC, rfl, Nat.le_of_ble_eq_true rfl⟩ rfl (fun sz => ?_)
  refine z_aload_n dX9_resultOf_0 rfl ?_
  refine s_getr f_RC_51 dX9_resultOf_1 (by assumption) rfl ?_
  refine z_aload_n dX9_resultOf_4 rfl ?_
  refine s_getr f_RC_34 dX9_resultOf_5 (by assumption) rfl ?_
  refine z_iload_n dX9_resultOf_8 rfl ?_
  refine s_aald (by decide) dX9_resultOf_9 t4 (vp_in_nI (by omega) (by decide)) (by rw [nI_clamp (by omega)]; exact if_pos (by omega)) ?_
  refine z_aload_n dX9_resultOf_10 rfl ?_
  refine s_getr f_RC_14 dX9_resultOf_11 (by assumption) rfl ?_
  refine s_getr f_RC_85 dX9_resultOf_14 (by assumption) rfl ?_
  refine n_callV0 l_RC_155 (C_Work_go (stk := stkF (wnd w k)) t6 (t4q k (by omega)) u1 ⟨by omega, by omega⟩ v0 b1 hv (rq k hk) (g2q k hk)) t6a dX9_resultOf_17 rfl rfl (Nat.le_of_ble_eq_true rfl) ⟨⟨by decide, by decide⟩, by decide, by decide⟩ (fun S17 q17 => ?_)
  refine z_aload_n dX9_resultOf_20 rfl ?_
  refine s_getr f_RC_51 dX9_resultOf_21 (by assumption) rfl ?_
  refine s_callV1 l_RC_159 (C_Work_result t6) t6a dX9_resultOf_24 rfl rfl (Nat.le_of_ble_eq_true rfl) ⟨⟨by decide, by decide⟩, by decide, by decide⟩ ?_
  refine z_areturn dX9_resultOf_27 rfl ⟨Nat.le_refl _, Nat.le_refl _⟩ ?_
  exact ⟨rfl, _, rfl, rfl, q17.1, q17.2.1⟩
theorem inW_Scr {x b : Nat} (h : inWork (x + 191) b) : inScr x b := by unfold inWork at h; unfold inScr; omega
theorem C_RC_of {a b : Int32} (hT : tRC sh x) (hR : rRC S x w) (hW : wOK w) (h0 : ∀ S', ¬ (rg a (wq w) = true ∧ rg b 8 = true) → frS S (inScr x) S' → P (some (.int (-1))) S')
    (h1 : ∀ k i S', k < wq w → a = nI k → i < 8 → b = nI i → frS S (inScr x) S' → P (some (.int (ofA w k i))) S') : zR G m_RC_of 6 sh [.ref x, .int a, .int b] S P := by
  obtain ⟨t0, t1, t2, t3, ⟨t4, t4q⟩, ⟨t5, t5t⟩, t6, t7, t8, t9, t10⟩ := id hT
  obtain ⟨u0, u1, u2, u3, u4, u5⟩ := id t1
  have u1a := u1.1
  obtain ⟨r0, rc, rh, rh2, ⟨rq8, rq0, rq⟩, ⟨rL, rtx⟩, rt⟩ := id hR
  obtain ⟨v0, v1, v2, v3, v4, v5⟩ := id r0
  have z0 : zi S (x + 1 + 1) 1 = nI (aN (wA w)) := v0.1
  obtain ⟨g0, gi, ⟨g2, g2q⟩, ⟨g3, g3x⟩, g4⟩ := id hW
  obtain ⟨⟨b1, b2, b3, b4, b5⟩, ⟨e1, e2, e3, e4, e5⟩, eV, eM, eMo, eS, eB⟩ := id g0
  have hv : ∀ j, j < aN (wA w) → ∀ c, c < 4 → aV (wA w) j c < 16 := fun j hj c hc => (eV j hj c hc).2
  have t6a := t6.1
  have hbB := t6.2.2.2.2 0 (by decide)
  refine s_meth 2 ⟨p_RC, rfl, Nat.le_of_ble_eq_true rfl⟩ rfl (fun sz => ?_)
  refine z_aload_n dX9_of_0 rfl ?_
  refine z_iload_n dX9_of_1 rfl ?_
  refine s_callV1 l_RC_152 (C_RC_isQuery hT hR) t0 dX9_of_2 rfl rfl (Nat.le_of_ble_eq_true rfl) ⟨⟨by decide, by decide⟩, by decide, by decide⟩ ?_
  refine z_if_ne 10 dX9_of_5 (by decide) (fun c5 => ?_) (fun c5 => ?_)
  · obtain ⟨k, hk, rfl⟩ := rg_t (by omega) (zo_ne0.mp c5)
    have hf := g2q k hk
    refine z_aload_n dX9_of_10 rfl ?_
    refine s_getr f_RC_51 dX9_of_11 (by assumption) rfl ?_
    refine z_aload_n dX9_of_14 rfl ?_
    refine s_getr f_RC_34 dX9_of_15 (by assumption) rfl ?_
    refine z_iload_n dX9_of_18 rfl ?_
    refine s_aald (by decide) dX9_of_19 t4 (vp_in_nI (by omega) (by decide)) (by rw [nI_clamp (by omega)]; exact if_pos (by omega)) ?_
    refine z_aload_n dX9_of_20 rfl ?_
    refine s_getr f_RC_14 dX9_of_21 (by assumption) rfl ?_
    refine s_getr f_RC_85 dX9_of_24 (by assumption) rfl ?_
    refine n_callV0 l_RC_155 (C_Work_go (stk := stkF (wnd w k)) t6 (t4q k (by omega)) u1 ⟨by omega, by omega⟩ v0 b1 hv (rq k hk) hf) t6a dX9_of_27 rfl rfl (Nat.le_of_ble_eq_true rfl) ⟨⟨by decide, by decide⟩, by decide, by decide⟩ (fun S27 q27 => ?_)
    have hfr : frS S (inScr x) S27 := q27.1.weaken (fun b hb => inW_Scr hb)
    have hB : rBits S27 (x + 191 + 4) (aN (wA w)) (qI w k).1 := q27.2.1
    have hz : zi S27 (x + 1 + 1) 1 = nI (aN (wA w)) := (congrFun (q27.1 _ (by unfold inWork; omega)).1 1).trans z0
    have hQ := (rq k hk).fr q27.1 (fun b b1 b2 => by unfold inWork; omega)
    have hN50 := hf.2.1
    refine z_aload_n dX9_of_30 rfl ?_
    refine s_getr f_RC_51 dX9_of_31 (by assumption) rfl ?_
    refine s_callV1 l_RC_159 (C_Work_result t6) t6a dX9_of_34 rfl rfl (Nat.le_of_ble_eq_true rfl) ⟨⟨by decide, by decide⟩, by decide, by decide⟩ ?_
    refine z_astore_n (lv' := [_, _, _, _, _]) dX9_of_37 (by decide) rfl ?_
    refine z_aload_n dX9_of_38 rfl ?_
    refine s_getr f_RC_14 dX9_of_39 (by assumption) rfl ?_
    refine s_getr f_RC_85 dX9_of_42 (by assumption) rfl ?_
    refine s_geti f_RC_96 dX9_of_45 (by assumption) rfl ?_
    rw [hz]
    refine z_istore (lv' := [_, _, _, _, _]) dX9_of_48 (by decide) rfl ?_
    refine z_iload_n dX9_of_50 rfl ?_
    refine z_table 0 [96, 101, 108, 116, 124, 137, 149, 161] 169 dX9_of_51 (by decide) ⟨fun c51 => ?_, fun c51 => ?_, fun c51 => ?_, fun c51 => ?_, fun c51 => ?_, fun c51 => ?_, fun c51 => ?_, fun c51 => ?_, trivial⟩ (fun c51 => ?_)
    · have hA := h1 k 0 S27 hk rfl (by decide) c51 hfr
      refine z_aload_n dX9_of_96 rfl ?_
      refine s_callV1 l_RC_163 (C_Bits_ones hbB) hbB dX9_of_97 rfl rfl (Nat.le_of_ble_eq_true rfl) ⟨⟨by decide, by decide⟩, by decide, by decide⟩ ?_
      refine z_ireturn dX9_of_100 rfl rfl ⟨Nat.le_refl _, Nat.le_refl _⟩ ?_
      rw [hB.ct (by omega)]
      exact ⟨rfl, _, rfl, hA⟩
    · have hA := h1 k 1 S27 hk rfl (by decide) c51 hfr
      refine z_aload_n dX9_of_101 rfl ?_
      refine z_iload dX9_of_102 rfl ?_
      refine s_callV1 l_RC_130 (C_Bits_runsWithin hbB (by omega)) hbB dX9_of_104 rfl rfl (Nat.le_of_ble_eq_true rfl) ⟨⟨by decide, by decide⟩, by decide, by decide⟩ ?_
      refine z_ireturn dX9_of_107 rfl rfl ⟨Nat.le_refl _, Nat.le_refl _⟩ ?_
      rw [hB.runs (by omega)]
      exact ⟨rfl, _, rfl, hA⟩
    · have hA := h1 k 2 S27 hk rfl (by decide) c51 hfr
      refine z_aload_n dX9_of_108 rfl ?_
      refine s_getr f_RC_51 dX9_of_109 (by assumption) rfl ?_
      refine s_callV1 l_RC_167 (C_Work_cost t6) t6a dX9_of_112 rfl rfl (Nat.le_of_ble_eq_true rfl) ⟨⟨by decide, by decide⟩, by decide, by decide⟩ ?_
      refine z_ireturn dX9_of_115 rfl rfl ⟨Nat.le_refl _, Nat.le_refl _⟩ ?_
      rw [show za S27 (x + 191 + 2) 0 = nI (qI w k).2.1 from q27.2.2.1]
      exact ⟨rfl, _, rfl, hA⟩
    · have hA := h1 k 3 S27 hk rfl (by decide) c51 hfr
      refine z_aload_n dX9_of_116 rfl ?_
      refine z_iconst 0 dX9_of_117 rfl ?_
      refine z_iload dX9_of_118 rfl ?_
      refine s_callV1 l_RC_170 (C_Bits_placeOfOne hbB (by omega)) hbB dX9_of_120 rfl rfl (Nat.le_of_ble_eq_true rfl) ⟨⟨by decide, by decide⟩, by decide, by decide⟩ ?_
      refine z_ireturn dX9_of_123 rfl rfl ⟨Nat.le_refl _, Nat.le_refl _⟩ ?_
      rw [kOne_rB hB (by omega)]
      exact ⟨rfl, _, rfl, hA⟩
    · have hA := h1 k 4 S27 hk rfl (by decide) c51 hfr
      refine z_aload_n dX9_of_124 rfl ?_
      refine z_aload_n dX9_of_125 rfl ?_
      refine s_callV1 l_RC_163 (C_Bits_ones hbB) hbB dX9_of_126 rfl rfl (Nat.le_of_ble_eq_true rfl) ⟨⟨by decide, by decide⟩, by decide, by decide⟩ ?_
      refine z_iconst 1 dX9_of_129 rfl ?_
      refine z_isub dX9_of_130 ?_
      refine z_iload dX9_of_131 rfl ?_
      rw [hB.ct (by omega)]
      refine s_callV1 l_RC_170 (C_Bits_placeOfOne hbB (by omega)) hbB dX9_of_133 rfl rfl (Nat.le_of_ble_eq_true rfl) ⟨⟨by decide, by decide⟩, by decide, by decide⟩ ?_
      refine z_ireturn dX9_of_136 rfl rfl ⟨Nat.le_refl _, Nat.le_refl _⟩ ?_
      rw [kOne_rB hB (by omega)]
      exact ⟨rfl, _, rfl, hA⟩
    · have hA := h1 k 5 S27 hk rfl (by decide) c51 hfr
      refine z_aload_n dX9_of_137 rfl ?_
      refine s_getr f_RC_34 dX9_of_138 (by assumption) rfl ?_
      refine z_iload_n dX9_of_141 rfl ?_
      refine s_aald (by decide) dX9_of_142 t4 (vp_in_nI (by omega) (by decide)) (by rw [nI_clamp (by omega)]; exact if_pos (by omega)) ?_
      refine z_iconst 0 dX9_of_143 rfl ?_
      refine z_iconst 3 dX9_of_144 rfl ?_
      refine s_callV1 l_RC_173 (C_Query_steps (t4q k (by omega)) hQ.1 hN50) (t4q k (by omega)).1 dX9_of_145 rfl rfl (Nat.le_of_ble_eq_true rfl) ⟨⟨by decide, by decide⟩, by decide, by decide⟩ ?_
      refine z_ireturn dX9_of_148 rfl rfl ⟨Nat.le_refl _, Nat.le_refl _⟩ ?_
      rw [fb_ct_cong (q := fun i => decide (nS (wnd w k) i ≤ 3)) (fun i hi => by rw [(hQ.2 i hi).1]; exact btwL _ (hf.s7 hi))]
      exact ⟨rfl, _, rfl, hA⟩
    · have hA := h1 k 6 S27 hk rfl (by decide) c51 hfr
      refine z_aload_n dX9_of_149 rfl ?_
      refine s_getr f_RC_34 dX9_of_150 (by assumption) rfl ?_
      refine z_iload_n dX9_of_153 rfl ?_
      refine s_aald (by decide) dX9_of_154 t4 (vp_in_nI (by omega) (by decide)) (by rw [nI_clamp (by omega)]; exact if_pos (by omega)) ?_
      refine z_iconst 4 dX9_of_155 rfl ?_
      refine z_iconst 4 dX9_of_156 rfl ?_
      refine s_callV1 l_RC_173 (C_Query_steps (t4q k (by omega)) hQ.1 hN50) (t4q k (by omega)).1 dX9_of_157 rfl rfl (Nat.le_of_ble_eq_true rfl) ⟨⟨by decide, by decide⟩, by decide, by decide⟩ ?_
      refine z_ireturn dX9_of_160 rfl rfl ⟨Nat.le_refl _, Nat.le_refl _⟩ ?_
      rw [fb_ct_cong (q := fun i => decide (nS (wnd w k) i = 4)) (fun i hi => by rw [(hQ.2 i hi).1]; exact btwN _ (hf.s7 hi))]
      exact ⟨rfl, _, rfl, hA⟩
    · have hA := h1 k 7 S27 hk rfl (by decide) c51 hfr
      refine z_aload_n dX9_of_161 rfl ?_
      refine s_getr f_RC_51 dX9_of_162 (by assumption) rfl ?_
      refine s_callV1 l_RC_176 (C_Work_depth t6) t6a dX9_of_165 rfl rfl (Nat.le_of_ble_eq_true rfl) ⟨⟨by decide, by decide⟩, by decide, by decide⟩ ?_
      refine z_ireturn dX9_of_168 rfl rfl ⟨Nat.le_refl _, Nat.le_refl _⟩ ?_
      rw [show za S27 (x + 191 + 3) 0 = nI (qI w k).2.2 from q27.2.2.2]
      exact ⟨rfl, _, rfl, hA⟩
    · refine z_iconst (-1) dX9_of_169 rfl ?_
      refine z_ireturn dX9_of_170 rfl rfl ⟨Nat.le_refl _, Nat.le_refl _⟩ ?_
      exact ⟨rfl, _, rfl, h0 _ (fun q => by
        obtain ⟨j, hj, e⟩ := rg_t (by decide) q.2
        exact c51 j (Nat.zero_le _) hj e) hfr⟩
  · refine z_iconst (-1) dX9_of_8 rfl ?_
    refine z_ireturn dX9_of_9 rfl rfl ⟨Nat.le_refl _, Nat.le_refl _⟩ ?_
    exact ⟨rfl, _, rfl, h0 _ (fun q => zoT q.1 c5) frS.rf⟩
theorem C_RC_row {a b : Int32} (hT : tRC sh x) (hR : rRC S x w) (hW : wOK w) (h0 : ¬ (rg a (wq w) = true ∧ 0 ≤ b) → P (some (.int (-1))) S)
    (h1 : ∀ k S', k < wq w → a = nI k → 0 ≤ b → frS S (inScr x) S' → P (some (.int (kOne (qI w k).1 (aN (wA w)) b))) S') : zR G m_RC_row 7 sh [.ref x, .int a, .int b] S P := by
  obtain ⟨t0, t1, t2, t3, ⟨t4, t4q⟩, ⟨t5, t5t⟩, t6, t7, t8, t9, t10⟩ := id hT
  obtain ⟨u0, u1, u2, u3, u4, u5⟩ := id t1
  have u1a := u1.1
  obtain ⟨r0, rc, rh, rh2, ⟨rq8, rq0, rq⟩, ⟨rL, rtx⟩, rt⟩ := id hR
  obtain ⟨v0, v1, v2, v3, v4, v5⟩ := id r0
  have z0 : zi S (x + 1 + 1) 1 = nI (aN (wA w)) := v0.1
  obtain ⟨g0, gi, ⟨g2, g2q⟩, ⟨g3, g3x⟩, g4⟩ := id hW
  obtain ⟨⟨b1, b2, b3, b4, b5⟩, ⟨e1, e2, e3, e4, e5⟩, eV, eM, eMo, eS, eB⟩ := id g0
  have hv : ∀ j, j < aN (wA w) → ∀ c, c < 4 → aV (wA w) j c < 16 := fun j hj c hc => (eV j hj c hc).2
  have hbB := t6.2.2.2.2 0 (by decide)
  refine s_meth 0 ⟨p_RC, rfl, Nat.le_of_ble_eq_true rfl⟩ rfl (fun sz => ?_)
  refine z_aload_n dX9_row_0 rfl ?_
  refine z_iload_n dX9_row_1 rfl ?_
  refine s_callV1 l_RC_152 (C_RC_isQuery hT hR) t0 dX9_row_2 rfl rfl (Nat.le_of_ble_eq_true rfl) ⟨⟨by decide, by decide⟩, by decide, by decide⟩ ?_
  refine z_if_eq 12 dX9_row_5 (by decide) (fun c5 => ?_) (fun c5 => ?_)
  · refine z_iconst (-1) dX9_row_12 rfl ?_
    refine z_ireturn dX9_row_13 rfl rfl ⟨Nat.le_refl _, Nat.le_refl _⟩ ?_
    first
      | exact ⟨rfl, _, rfl, h0 (fun q => zoT q.1 c5)⟩
      | exact ⟨rfl, _, rfl, h0 (fun q => c9 q.2)⟩
      | skip
  · refine z_iload_n dX9_row_8 rfl ?_
    refine z_if_ge 14 dX9_row_9 (by decide) (fun c9 => ?_) (fun c9 => ?_)
    · obtain ⟨k, hk, rfl⟩ := rg_t (by omega) (zo_ne0.mp c5)
      refine z_aload_n dX9_row_14 rfl ?_
      refine z_iload_n dX9_row_15 rfl ?_
      refine n_callV1 l_RC_179 (C_RC_resultOf hT hR hW hk) t0 dX9_row_16 rfl rfl (Nat.le_of_ble_eq_true rfl) ⟨⟨by decide, by decide⟩, by decide, by decide⟩ (fun S16 q16 => ?_)
      refine z_iload_n dX9_row_19 rfl ?_
      refine z_aload_n dX9_row_20 rfl ?_
      refine s_getr f_RC_14 dX9_row_21 (by assumption) rfl ?_
      refine s_getr f_RC_85 dX9_row_24 (by assumption) rfl ?_
      refine s_geti f_RC_96 dX9_row_27 (by assumption) rfl ?_
      rw [show zi S16 (x + 1 + 1) 1 = nI (aN (wA w)) from (congrFun (q16.1 _ (by unfold inWork; omega)).1 1).trans z0]
      refine s_callV1 l_RC_170 (C_Bits_placeOfOne hbB (by omega)) hbB dX9_row_30 rfl rfl (Nat.le_of_ble_eq_true rfl) ⟨⟨by decide, by decide⟩, by decide, by decide⟩ ?_
      refine z_ireturn dX9_row_33 rfl rfl ⟨Nat.le_refl _, Nat.le_refl _⟩ ?_
      rw [kOne_rB q16.2 (by omega)]
      exact ⟨rfl, _, rfl, h1 k _ hk rfl c9 (q16.1.weaken (fun b hb => inW_Scr hb))⟩
    · refine z_iconst (-1) dX9_row_12 rfl ?_
      refine z_ireturn dX9_row_13 rfl rfl ⟨Nat.le_refl _, Nat.le_refl _⟩ ?_
      first
        | exact ⟨rfl, _, rfl, h0 (fun q => zoT q.1 c5)⟩
        | exact ⟨rfl, _, rfl, h0 (fun q => c9 q.2)⟩
        | skip
theorem grScr {S S1 S2 : zSt} {x : Nat} {z : Nat → Nat} (h1 : frS S (inWork (x + 191)) S1) (h2 : grS S1 (x + 230) 16 z S2) : frS S (inScr x) S2 := (h1.weaken (fun b hb => inW_Scr hb)).trans (h2.1.weaken (fun b hb => by unfold inScr; omega))
theorem C_RC_group {a b d : Int32} (hT : tRC sh x) (hR : rRC S x w) (hW : wOK w) (h0 : ¬ (rg a (wq w) = true ∧ rg b 4 = true ∧ rg d 16 = true) → P (some (.int (-1))) S)
    (h1 : ∀ k c v S', k < wq w → a = nI k → c < 4 → b = nI c → v < 16 → d = nI v → frS S (inScr x) S' → P (some (.int (nI (gct (qI w k).1 (aV (wA w)) (aN (wA w)) c v)))) S') : zR G m_RC_group 7 sh [.ref x, .int a, .int b, .int d] S P := by
  obtain ⟨t0, t1, t2, t3, ⟨t4, t4q⟩, ⟨t5, t5t⟩, t6, t7, t8, t9, t10⟩ := id hT
  obtain ⟨u0, u1, u2, u3, u4, u5⟩ := id t1
  have u1a := u1.1
  obtain ⟨r0, rc, rh, rh2, ⟨rq8, rq0, rq⟩, ⟨rL, rtx⟩, rt⟩ := id hR
  obtain ⟨v0, v1, v2, v3, v4, v5⟩ := id r0
  have z0 : zi S (x + 1 + 1) 1 = nI (aN (wA w)) := v0.1
  obtain ⟨g0, gi, ⟨g2, g2q⟩, ⟨g3, g3x⟩, g4⟩ := id hW
  obtain ⟨⟨b1, b2, b3, b4, b5⟩, ⟨e1, e2, e3, e4, e5⟩, eV, eM, eMo, eS, eB⟩ := id g0
  have hv : ∀ j, j < aN (wA w) → ∀ c, c < 4 → aV (wA w) j c < 16 := fun j hj c hc => (eV j hj c hc).2
  have hbB := t6.2.2.2.2 0 (by decide)
  have t9a := t9.1
  refine s_meth 0 ⟨p_RC, rfl, Nat.le_of_ble_eq_true rfl⟩ rfl (fun sz => ?_)
  refine z_aload_n dX9_group_0 rfl ?_
  refine z_iload_n dX9_group_1 rfl ?_
  refine s_callV1 l_RC_152 (C_RC_isQuery hT hR) t0 dX9_group_2 rfl rfl (Nat.le_of_ble_eq_true rfl) ⟨⟨by decide, by decide⟩, by decide, by decide⟩ ?_
  refine z_if_eq 22 dX9_group_5 (by decide) (fun c5 => ?_) (fun c5 => ?_)
  · refine z_iconst (-1) dX9_group_22 rfl ?_
    refine z_ireturn dX9_group_23 rfl rfl ⟨Nat.le_refl _, Nat.le_refl _⟩ ?_
    first
      | exact ⟨rfl, _, rfl, h0 (fun q => zoT q.1 c5)⟩
      | exact ⟨rfl, _, rfl, h0 (fun q => zoT q.2.1 c12)⟩
      | exact ⟨rfl, _, rfl, h0 (fun q => zoT q.2.2 c19)⟩
      | skip
  · refine z_iload_n dX9_group_8 rfl ?_
    refine s_callS1 l_RC_102 (C_RC_isColumn) dX9_group_9 rfl rfl (Nat.le_of_ble_eq_true rfl) ⟨⟨by decide, by decide⟩, by decide, by decide⟩ ?_
    refine z_if_eq 22 dX9_group_12 (by decide) (fun c12 => ?_) (fun c12 => ?_)
    · refine z_iconst (-1) dX9_group_22 rfl ?_
      refine z_ireturn dX9_group_23 rfl rfl ⟨Nat.le_refl _, Nat.le_refl _⟩ ?_
      first
        | exact ⟨rfl, _, rfl, h0 (fun q => zoT q.1 c5)⟩
        | exact ⟨rfl, _, rfl, h0 (fun q => zoT q.2.1 c12)⟩
        | exact ⟨rfl, _, rfl, h0 (fun q => zoT q.2.2 c19)⟩
        | skip
    · refine z_iload_n dX9_group_15 rfl ?_
      refine s_callS1 l_RC_81 (C_RC_isValue) dX9_group_16 rfl rfl (Nat.le_of_ble_eq_true rfl) ⟨⟨by decide, by decide⟩, by decide, by decide⟩ ?_
      refine z_if_ne 24 dX9_group_19 (by decide) (fun c19 => ?_) (fun c19 => ?_)
      · obtain ⟨k, hk, rfl⟩ := rg_t (by omega) (zo_ne0.mp c5)
        obtain ⟨c, hc, rfl⟩ := rg_t (by decide) (zo_ne0.mp c12)
        obtain ⟨v, hvv, rfl⟩ := rg_t (by decide) (zo_ne0.mp c19)
        refine z_aload_n dX9_group_24 rfl ?_
        refine s_getr f_RC_68 dX9_group_25 (by assumption) rfl ?_
        refine z_aload_n dX9_group_28 rfl ?_
        refine z_iload_n dX9_group_29 rfl ?_
        refine n_callV1 l_RC_179 (C_RC_resultOf hT hR hW hk) t0 dX9_group_30 rfl rfl (Nat.le_of_ble_eq_true rfl) ⟨⟨by decide, by decide⟩, by decide, by decide⟩ (fun S30 q30 => ?_)
        refine z_aload_n dX9_group_33 rfl ?_
        refine s_getr f_RC_14 dX9_group_34 (by assumption) rfl ?_
        refine s_getr f_RC_85 dX9_group_37 (by assumption) rfl ?_
        refine z_iload_n dX9_group_40 rfl ?_
        refine n_callV0 l_RC_183 (C_Groups_fill t9 hbB u1 (by omega) q30.2 (v0.fr q30.1 (fun b b1 b2 => by unfold inWork; omega)) b1 hc) t9a dX9_group_41 rfl rfl (Nat.le_of_ble_eq_true rfl) ⟨⟨by decide, by decide⟩, by decide, by decide⟩ (fun S41 q41 => ?_)
        refine z_aload_n dX9_group_44 rfl ?_
        refine s_getr f_RC_68 dX9_group_45 (by assumption) rfl ?_
        refine s_getr f_RC_187 dX9_group_48 (by assumption) rfl ?_
        refine z_iload_n dX9_group_51 rfl ?_
        refine s_iald dX9_group_52 t9.2.2 (vp_in_nI hvv (by decide)) ?_
        refine z_ireturn dX9_group_53 rfl rfl ⟨Nat.le_refl _, Nat.le_refl _⟩ ?_
        rw [nI_clamp (by omega), q41.2.2 v hvv]
        exact ⟨rfl, _, rfl, h1 k c v _ hk rfl hc rfl hvv rfl (grScr q30.1 q41)⟩
      · refine z_iconst (-1) dX9_group_22 rfl ?_
        refine z_ireturn dX9_group_23 rfl rfl ⟨Nat.le_refl _, Nat.le_refl _⟩ ?_
        first
          | exact ⟨rfl, _, rfl, h0 (fun q => zoT q.1 c5)⟩
          | exact ⟨rfl, _, rfl, h0 (fun q => zoT q.2.1 c12)⟩
          | exact ⟨rfl, _, rfl, h0 (fun q => zoT q.2.2 c19)⟩
          | skip
theorem C_RC_edge {a b d : Int32} (hT : tRC sh x) (hR : rRC S x w) (hW : wOK w) (h0 : ∀ S', ¬ (rg a (wq w) = true ∧ rg b 4 = true ∧ rg d 5 = true) → frS S (inScr x) S' → P (some (.int (-1))) S')
    (h1 : ∀ k c i S', k < wq w → a = nI k → c < 4 → b = nI c → i < 5 → d = nI i → frS S (inScr x) S' → P (some (.int (edA w k c i))) S') : zR G m_RC_edge 7 sh [.ref x, .int a, .int b, .int d] S P := by
  obtain ⟨t0, t1, t2, t3, ⟨t4, t4q⟩, ⟨t5, t5t⟩, t6, t7, t8, t9, t10⟩ := id hT
  obtain ⟨u0, u1, u2, u3, u4, u5⟩ := id t1
  have u1a := u1.1
  obtain ⟨r0, rc, rh, rh2, ⟨rq8, rq0, rq⟩, ⟨rL, rtx⟩, rt⟩ := id hR
  obtain ⟨v0, v1, v2, v3, v4, v5⟩ := id r0
  have z0 : zi S (x + 1 + 1) 1 = nI (aN (wA w)) := v0.1
  obtain ⟨g0, gi, ⟨g2, g2q⟩, ⟨g3, g3x⟩, g4⟩ := id hW
  obtain ⟨⟨b1, b2, b3, b4, b5⟩, ⟨e1, e2, e3, e4, e5⟩, eV, eM, eMo, eS, eB⟩ := id g0
  have hv : ∀ j, j < aN (wA w) → ∀ c, c < 4 → aV (wA w) j c < 16 := fun j hj c hc => (eV j hj c hc).2
  have hbB := t6.2.2.2.2 0 (by decide)
  have t9a := t9.1
  refine s_meth 0 ⟨p_RC, rfl, Nat.le_of_ble_eq_true rfl⟩ rfl (fun sz => ?_)
  refine z_aload_n dX9_edge_0 rfl ?_
  refine z_iload_n dX9_edge_1 rfl ?_
  refine s_callV1 l_RC_152 (C_RC_isQuery hT hR) t0 dX9_edge_2 rfl rfl (Nat.le_of_ble_eq_true rfl) ⟨⟨by decide, by decide⟩, by decide, by decide⟩ ?_
  refine z_if_eq 15 dX9_edge_5 (by decide) (fun c5 => ?_) (fun c5 => ?_)
  · refine z_iconst (-1) dX9_edge_15 rfl ?_
    refine z_ireturn dX9_edge_16 rfl rfl ⟨Nat.le_refl _, Nat.le_refl _⟩ ?_
    first
      | exact ⟨rfl, _, rfl, h0 _ (fun q => zoT q.1 c5) frS.rf⟩
      | exact ⟨rfl, _, rfl, h0 _ (fun q => zoT q.2.1 c12) frS.rf⟩
      | skip
  · refine z_iload_n dX9_edge_8 rfl ?_
    refine s_callS1 l_RC_102 (C_RC_isColumn) dX9_edge_9 rfl rfl (Nat.le_of_ble_eq_true rfl) ⟨⟨by decide, by decide⟩, by decide, by decide⟩ ?_
    refine z_if_ne 17 dX9_edge_12 (by decide) (fun c12 => ?_) (fun c12 => ?_)
    · obtain ⟨k, hk, rfl⟩ := rg_t (by omega) (zo_ne0.mp c5)
      obtain ⟨c, hc, rfl⟩ := rg_t (by decide) (zo_ne0.mp c12)
      refine z_aload_n dX9_edge_17 rfl ?_
      refine s_getr f_RC_68 dX9_edge_18 (by assumption) rfl ?_
      refine z_aload_n dX9_edge_21 rfl ?_
      refine z_iload_n dX9_edge_22 rfl ?_
      refine n_callV1 l_RC_179 (C_RC_resultOf hT hR hW hk) t0 dX9_edge_23 rfl rfl (Nat.le_of_ble_eq_true rfl) ⟨⟨by decide, by decide⟩, by decide, by decide⟩ (fun S23 q23 => ?_)
      refine z_aload_n dX9_edge_26 rfl ?_
      refine s_getr f_RC_14 dX9_edge_27 (by assumption) rfl ?_
      refine s_getr f_RC_85 dX9_edge_30 (by assumption) rfl ?_
      refine z_iload_n dX9_edge_33 rfl ?_
      refine n_callV0 l_RC_183 (C_Groups_fill t9 hbB u1 (by omega) q23.2 (v0.fr q23.1 (fun b b1 b2 => by unfold inWork; omega)) b1 hc) t9a dX9_edge_34 rfl rfl (Nat.le_of_ble_eq_true rfl) ⟨⟨by decide, by decide⟩, by decide, by decide⟩ (fun S34 q34 => ?_)
      have hfr := grScr q23.1 q34
      have hzl : ∀ i, gct (qI w k).1 (aV (wA w)) (aN (wA w)) c i ≤ 120 := fun i => Nat.le_trans (gct_le _ _ _ _ _) b1
      have hzb : ∀ i, gct (qI w k).1 (aV (wA w)) (aN (wA w)) c i < 2 ^ 31 := fun i => Nat.lt_of_le_of_lt (hzl i) (by decide)
      have hsm := gct_sum (qI w k).1 (aV (wA w)) c (aN (wA w)) (fun j hj => hv j hj c hc)
      have hct : qct w k ≤ 120 := Nat.le_trans (fb_ct_le _ _) b1
      refine z_iload_n dX9_edge_37 rfl ?_
      refine z_table 0 [72, 80, 88, 96, 104] 112 dX9_edge_38 (by decide) ⟨fun c38 => ?_, fun c38 => ?_, fun c38 => ?_, fun c38 => ?_, fun c38 => ?_, trivial⟩ (fun c38 => ?_)
      · have hA := h1 k c 0 S34 hk rfl hc rfl (by decide) c38 hfr
        refine z_aload_n dX9_edge_72 rfl ?_
        refine s_getr f_RC_68 dX9_edge_73 (by assumption) rfl ?_
        refine s_callV1 l_RC_190 (C_Groups_least t9 q34.2.2 hzb) t9a dX9_edge_76 rfl rfl (Nat.le_of_ble_eq_true rfl) ⟨⟨by decide, by decide⟩, by decide, by decide⟩ ?_
        refine z_ireturn dX9_edge_79 rfl rfl ⟨Nat.le_refl _, Nat.le_refl _⟩ ?_
        exact ⟨rfl, _, rfl, hA⟩
      · have hA := h1 k c 1 S34 hk rfl hc rfl (by decide) c38 hfr
        refine z_aload_n dX9_edge_80 rfl ?_
        refine s_getr f_RC_68 dX9_edge_81 (by assumption) rfl ?_
        refine s_callV1 l_RC_193 (C_Groups_greatest t9 q34.2.2 hzb) t9a dX9_edge_84 rfl rfl (Nat.le_of_ble_eq_true rfl) ⟨⟨by decide, by decide⟩, by decide, by decide⟩ ?_
        refine z_ireturn dX9_edge_87 rfl rfl ⟨Nat.le_refl _, Nat.le_refl _⟩ ?_
        exact ⟨rfl, _, rfl, hA⟩
      · have hA := h1 k c 2 S34 hk rfl hc rfl (by decide) c38 hfr
        refine z_aload_n dX9_edge_88 rfl ?_
        refine s_getr f_RC_68 dX9_edge_89 (by assumption) rfl ?_
        refine s_callV1 l_RC_196 (C_Groups_middle (all := qct w k) t9 q34.2.2 (q34.2.1.trans (congrArg nI hsm)) (by omega) (fun i hi => Nat.lt_of_le_of_lt (fb_sm_bound (c := 120) (fun j hj => hzl j)) (by omega))) t9a dX9_edge_92 rfl rfl (Nat.le_of_ble_eq_true rfl) ⟨⟨by decide, by decide⟩, by decide, by decide⟩ ?_
        refine z_ireturn dX9_edge_95 rfl rfl ⟨Nat.le_refl _, Nat.le_refl _⟩ ?_
        exact ⟨rfl, _, rfl, hA⟩
      · have hA := h1 k c 3 S34 hk rfl hc rfl (by decide) c38 hfr
        refine z_aload_n dX9_edge_96 rfl ?_
        refine s_getr f_RC_68 dX9_edge_97 (by assumption) rfl ?_
        refine s_callV1 l_RC_199 (C_Groups_unlike t9 q34.2.2 hzb) t9a dX9_edge_100 rfl rfl (Nat.le_of_ble_eq_true rfl) ⟨⟨by decide, by decide⟩, by decide, by decide⟩ ?_
        refine z_ireturn dX9_edge_103 rfl rfl ⟨Nat.le_refl _, Nat.le_refl _⟩ ?_
        exact ⟨rfl, _, rfl, hA⟩
      · have hA := h1 k c 4 S34 hk rfl hc rfl (by decide) c38 hfr
        refine z_aload_n dX9_edge_104 rfl ?_
        refine s_getr f_RC_68 dX9_edge_105 (by assumption) rfl ?_
        refine s_callV1 l_RC_202 (C_Groups_greatestGroup t9 q34.2.2 hzb) t9a dX9_edge_108 rfl rfl (Nat.le_of_ble_eq_true rfl) ⟨⟨by decide, by decide⟩, by decide, by decide⟩ ?_
        refine z_ireturn dX9_edge_111 rfl rfl ⟨Nat.le_refl _, Nat.le_refl _⟩ ?_
        exact ⟨rfl, _, rfl, hA⟩
      · refine z_iconst (-1) dX9_edge_112 rfl ?_
        refine z_ireturn dX9_edge_113 rfl rfl ⟨Nat.le_refl _, Nat.le_refl _⟩ ?_
        exact ⟨rfl, _, rfl, h0 _ (fun q => by
          obtain ⟨j, hj, e⟩ := rg_t (by decide) q.2.2
          exact c38 j (Nat.zero_le _) hj e) hfr⟩
    · refine z_iconst (-1) dX9_edge_15 rfl ?_
      refine z_ireturn dX9_edge_16 rfl rfl ⟨Nat.le_refl _, Nat.le_refl _⟩ ?_
      first
        | exact ⟨rfl, _, rfl, h0 _ (fun q => zoT q.1 c5) frS.rf⟩
        | exact ⟨rfl, _, rfl, h0 _ (fun q => zoT q.2.1 c12) frS.rf⟩
        | skip
theorem C_RC_two {a b d : Int32} (hT : tRC sh x) (hR : rRC S x w) (hW : wOK w) (h0 : ∀ S', ¬ (rg a (wq w) = true ∧ rg b (wq w) = true ∧ rg d 5 = true) → frS S (inScr x) S' → P (some (.int (-1))) S')
    (h1 : ∀ k l i S', k < wq w → a = nI k → l < wq w → b = nI l → i < 5 → d = nI i → frS S (inScr x) S' → P (some (.int (twA w k l i))) S') : zR G m_RC_two 7 sh [.ref x, .int a, .int b, .int d] S P := by
  obtain ⟨t0, t1, t2, t3, ⟨t4, t4q⟩, ⟨t5, t5t⟩, t6, t7, t8, t9, t10⟩ := id hT
  obtain ⟨u0, u1, u2, u3, u4, u5⟩ := id t1
  have u1a := u1.1
  obtain ⟨r0, rc, rh, rh2, ⟨rq8, rq0, rq⟩, ⟨rL, rtx⟩, rt⟩ := id hR
  obtain ⟨v0, v1, v2, v3, v4, v5⟩ := id r0
  have z0 : zi S (x + 1 + 1) 1 = nI (aN (wA w)) := v0.1
  obtain ⟨g0, gi, ⟨g2, g2q⟩, ⟨g3, g3x⟩, g4⟩ := id hW
  obtain ⟨⟨b1, b2, b3, b4, b5⟩, ⟨e1, e2, e3, e4, e5⟩, eV, eM, eMo, eS, eB⟩ := id g0
  have hv : ∀ j, j < aN (wA w) → ∀ c, c < 4 → aV (wA w) j c < 16 := fun j hj c hc => (eV j hj c hc).2
  have t7a := t7.1
  have hbB := t6.2.2.2.2 0 (by decide)
  have hbC := t7.2.2.2.2 0 (by decide)
  refine s_meth 5 ⟨p_RC, rfl, Nat.le_of_ble_eq_true rfl⟩ rfl (fun sz => ?_)
  refine z_aload_n dX9_two_0 rfl ?_
  refine z_iload_n dX9_two_1 rfl ?_
  refine s_callV1 l_RC_152 (C_RC_isQuery hT hR) t0 dX9_two_2 rfl rfl (Nat.le_of_ble_eq_true rfl) ⟨⟨by decide, by decide⟩, by decide, by decide⟩ ?_
  refine z_if_eq 16 dX9_two_5 (by decide) (fun c5 => ?_) (fun c5 => ?_)
  · refine z_iconst (-1) dX9_two_16 rfl ?_
    refine z_ireturn dX9_two_17 rfl rfl ⟨Nat.le_refl _, Nat.le_refl _⟩ ?_
    first
      | exact ⟨rfl, _, rfl, h0 _ (fun q => zoT q.1 c5) frS.rf⟩
      | exact ⟨rfl, _, rfl, h0 _ (fun q => zoT q.2.1 c13) frS.rf⟩
      | skip
  · refine z_aload_n dX9_two_8 rfl ?_
    refine z_iload_n dX9_two_9 rfl ?_
    refine s_callV1 l_RC_152 (C_RC_isQuery hT hR) t0 dX9_two_10 rfl rfl (Nat.le_of_ble_eq_true rfl) ⟨⟨by decide, by decide⟩, by decide, by decide⟩ ?_
    refine z_if_ne 18 dX9_two_13 (by decide) (fun c13 => ?_) (fun c13 => ?_)
    · obtain ⟨k, hk, rfl⟩ := rg_t (by omega) (zo_ne0.mp c5)
      obtain ⟨l, hl, rfl⟩ := rg_t (by omega) (zo_ne0.mp c13)
      refine z_aload_n dX9_two_18 rfl ?_
      refine s_getr f_RC_55 dX9_two_19 (by assumption) rfl ?_
      refine z_aload_n dX9_two_22 rfl ?_
      refine s_getr f_RC_34 dX9_two_23 (by assumption) rfl ?_
      refine z_iload_n dX9_two_26 rfl ?_
      refine s_aald (by decide) dX9_two_27 t4 (vp_in_nI (by omega) (by decide)) (by rw [nI_clamp (by omega)]; exact if_pos (by omega)) ?_
      refine z_aload_n dX9_two_28 rfl ?_
      refine s_getr f_RC_14 dX9_two_29 (by assumption) rfl ?_
      refine s_getr f_RC_85 dX9_two_32 (by assumption) rfl ?_
      refine n_callV0 l_RC_155 (C_Work_go (stk := stkF (wnd w l)) t7 (t4q l (by omega)) u1 ⟨by omega, by omega⟩ v0 b1 hv (rq l hl) (g2q l hl)) t7a dX9_two_35 rfl rfl (Nat.le_of_ble_eq_true rfl) ⟨⟨by decide, by decide⟩, by decide, by decide⟩ (fun S35 q35 => ?_)
      have f35 : frS S (inScr x) S35 := q35.1.weaken (fun b hb => by unfold inWork at hb; unfold inScr; omega)
      have hR2 := hR.fr f35 (fun b b1 b2 b3 => by unfold inScr; omega)
      have hC0 : rBits S35 (x + 210 + 4) (aN (wA w)) (qI w l).1 := q35.2.1
      refine z_aload_n dX9_two_38 rfl ?_
      refine z_iload_n dX9_two_39 rfl ?_
      refine n_callV1 l_RC_179 (C_RC_resultOf hT hR2 hW hk) t0 dX9_two_40 rfl rfl (Nat.le_of_ble_eq_true rfl) ⟨⟨by decide, by decide⟩, by decide, by decide⟩ (fun S40 q40 => ?_)
      have hC1 := hC0.fr q40.1 (by unfold inWork; omega)
      have hB1 := q40.2
      refine z_astore (lv' := [_, _, _, _, _, _, _, _, _]) dX9_two_43 (by decide) rfl ?_
      refine z_aload_n dX9_two_45 rfl ?_
      refine s_getr f_RC_55 dX9_two_46 (by assumption) rfl ?_
      refine s_callV1 l_RC_159 (C_Work_result t7) t7a dX9_two_49 rfl rfl (Nat.le_of_ble_eq_true rfl) ⟨⟨by decide, by decide⟩, by decide, by decide⟩ ?_
      refine z_astore (lv' := [_, _, _, _, _, _, _, _, _]) dX9_two_52 (by decide) rfl ?_
      refine z_aload_n dX9_two_54 rfl ?_
      refine s_getr f_RC_61 dX9_two_55 (by assumption) rfl ?_
      refine z_aload dX9_two_58 rfl ?_
      refine n_callV0 l_RC_205 (C_Bits_become t8 hbB) t8 dX9_two_60 rfl rfl (Nat.le_of_ble_eq_true rfl) ⟨⟨by decide, by decide⟩, by decide, by decide⟩ (fun S60 q60 => ?_)
      refine z_aload_n dX9_two_63 rfl ?_
      refine s_getr f_RC_61 dX9_two_64 (by assumption) rfl ?_
      refine z_aload dX9_two_67 rfl ?_
      refine n_callV0 l_RC_209 (C_Bits_keep t8 hbC) t8 dX9_two_69 rfl rfl (Nat.le_of_ble_eq_true rfl) ⟨⟨by decide, by decide⟩, by decide, by decide⟩ (fun S69 q69 => ?_)
      have l60 : frS S40 (fun b => b = x + 229) S60 := (q60.lg (P := fun b => b = x + 229) rfl).fr
      have l69 : frS S60 (fun b => b = x + 229) S69 := (q69.lg (P := fun b => b = x + 229) rfl).fr
      have hfr : frS S (inScr x) S69 := (f35.trans (q40.1.weaken (fun b hb => inW_Scr hb))).trans ((l60.trans l69).weaken (fun b hb => by unfold inScr; omega))
      have hB2 := (hB1.fr l60 (by omega)).fr l69 (by omega)
      have hC2 := (hC1.fr l60 (by omega))
      have hC3 := hC2.fr l69 (by omega)
      have hD : rBits S69 (x + 229) (aN (wA w)) (bothF (qI w k).1 (qI w l).1) := fun j hj => by
        rw [q69.2.2.2.2 j hj]
        show (bq S60 (x + 229) j && bq S60 (x + 210 + 4) j) = _
        rw [q60.2.2.2.2 j hj, hC2 j hj]
        show (bq S40 (x + 191 + 4) j && _) = _
        rw [hB1 j hj]
        unfold bothF
        cases decide (j < aN (wA w)) <;> simp
      have e1 := ct_one (qI w k).1 (qI w l).1 (aN (wA w))
      have e2 := ct_one (qI w l).1 (qI w k).1 (aN (wA w))
      rw [bothF_c (qI w l).1 (qI w k).1] at e2
      have le1 := fb_ct_le (bothF (qI w k).1 (qI w l).1) (aN (wA w))
      have le2 := fb_ct_le (oneF (qI w k).1 (qI w l).1) (aN (wA w))
      have le3 := fb_ct_le (oneF (qI w l).1 (qI w k).1) (aN (wA w))
      generalize gB : fb_ct (bothF (qI w k).1 (qI w l).1) (aN (wA w)) = nB at e1 e2 le1
      generalize gO : fb_ct (oneF (qI w k).1 (qI w l).1) (aN (wA w)) = nO1 at e1 le2
      generalize gT : fb_ct (oneF (qI w l).1 (qI w k).1) (aN (wA w)) = nT1 at e2 le3
      refine z_aload_n dX9_two_72 rfl ?_
      refine s_getr f_RC_61 dX9_two_73 (by assumption) rfl ?_
      refine s_callV1 l_RC_163 (C_Bits_ones t8) t8 dX9_two_76 rfl rfl (Nat.le_of_ble_eq_true rfl) ⟨⟨by decide, by decide⟩, by decide, by decide⟩ ?_
      rw [hD.ct (by omega), gB]
      refine z_istore (lv' := [_, _, _, _, _, _, _, _, _]) dX9_two_79 (by decide) rfl ?_
      refine z_aload dX9_two_81 rfl ?_
      refine s_callV1 l_RC_163 (C_Bits_ones hbB) hbB dX9_two_83 rfl rfl (Nat.le_of_ble_eq_true rfl) ⟨⟨by decide, by decide⟩, by decide, by decide⟩ ?_
      rw [hB2.ct (by omega), e1]
      refine z_istore (lv' := [_, _, _, _, _, _, _, _, _]) dX9_two_86 (by decide) rfl ?_
      refine z_aload dX9_two_88 rfl ?_
      refine s_callV1 l_RC_163 (C_Bits_ones hbC) hbC dX9_two_90 rfl rfl (Nat.le_of_ble_eq_true rfl) ⟨⟨by decide, by decide⟩, by decide, by decide⟩ ?_
      rw [hC3.ct (by omega), e2]
      refine z_istore (lv' := [_, _, _, _, _, _, _, _, _]) dX9_two_93 (by decide) rfl ?_
      refine z_iload_n dX9_two_95 rfl ?_
      refine z_table 0 [132, 135, 144, 150, 170] 183 dX9_two_96 (by decide) ⟨fun c96 => ?_, fun c96 => ?_, fun c96 => ?_, fun c96 => ?_, fun c96 => ?_, trivial⟩ (fun c96 => ?_)
      · have hA := h1 k l 0 S69 hk rfl hl rfl (by decide) c96 hfr
        unfold twA at hA
        rw [gB] at hA
        refine z_iload dX9_two_132 rfl ?_
        refine z_ireturn dX9_two_134 rfl rfl ⟨Nat.le_refl _, Nat.le_refl _⟩ ?_
        exact ⟨rfl, _, rfl, hA⟩
      · have hA := h1 k l 1 S69 hk rfl hl rfl (by decide) c96 hfr
        unfold twA at hA
        rw [gB, gO, gT] at hA
        refine z_iload dX9_two_135 rfl ?_
        refine z_iload dX9_two_137 rfl ?_
        refine z_iadd dX9_two_139 ?_
        refine z_iload dX9_two_140 rfl ?_
        refine z_isub dX9_two_142 ?_
        rw [nI_add, pk_sub (by omega), show nB + nO1 + (nB + nT1) - nB = nB + nO1 + nT1 by omega]
        refine z_ireturn dX9_two_143 rfl rfl ⟨Nat.le_refl _, Nat.le_refl _⟩ ?_
        exact ⟨rfl, _, rfl, hA⟩
      · have hA := h1 k l 2 S69 hk rfl hl rfl (by decide) c96 hfr
        unfold twA at hA
        rw [gO] at hA
        refine z_iload dX9_two_144 rfl ?_
        refine z_iload dX9_two_146 rfl ?_
        refine z_isub dX9_two_148 ?_
        rw [pk_sub (by omega), show nB + nO1 - nB = nO1 by omega]
        refine z_ireturn dX9_two_149 rfl rfl ⟨Nat.le_refl _, Nat.le_refl _⟩ ?_
        exact ⟨rfl, _, rfl, hA⟩
      · have hA : P (some (.int (if fb_ct (oneF (qI w k).1 (qI w l).1) (aN (wA w)) + fb_ct (oneF (qI w l).1 (qI w k).1) (aN (wA w)) = 0 then 1 else 0))) S69 := h1 k l 3 S69 hk rfl hl rfl (by decide) c96 hfr
        rw [gO, gT] at hA
        refine z_iload dX9_two_150 rfl ?_
        refine z_iload dX9_two_152 rfl ?_
        refine z_icmp_ne 168 dX9_two_154 (by decide) (fun c154 => ?_) (fun c154 => ?_)
        · have d1 : ¬ nB + nO1 = nB := fun q => c154 (by rw [q])
          refine z_iconst 0 dX9_two_168 rfl ?_
          refine z_ireturn dX9_two_169 rfl rfl ⟨Nat.le_refl _, Nat.le_refl _⟩ ?_
          first
            | (rw [if_pos (by omega)] at hA; exact ⟨rfl, _, rfl, hA⟩)
            | (rw [if_neg (by omega)] at hA; exact ⟨rfl, _, rfl, hA⟩)
        · have d1 := (nI_eq (by omega) (by omega)).mp c154
          refine z_iload dX9_two_157 rfl ?_
          refine z_iload dX9_two_159 rfl ?_
          refine z_icmp_ne 168 dX9_two_161 (by decide) (fun c161 => ?_) (fun c161 => ?_)
          · have d2 : ¬ nB + nT1 = nB := fun q => c161 (by rw [q])
            refine z_iconst 0 dX9_two_168 rfl ?_
            refine z_ireturn dX9_two_169 rfl rfl ⟨Nat.le_refl _, Nat.le_refl _⟩ ?_
            first
              | (rw [if_pos (by omega)] at hA; exact ⟨rfl, _, rfl, hA⟩)
              | (rw [if_neg (by omega)] at hA; exact ⟨rfl, _, rfl, hA⟩)
          · have d2 := (nI_eq (by omega) (by omega)).mp c161
            refine z_iconst 1 dX9_two_164 rfl ?_
            refine z_goto 169 dX9_two_165 (by decide) ?_
            refine z_ireturn dX9_two_169 rfl rfl ⟨Nat.le_refl _, Nat.le_refl _⟩ ?_
            first
              | (rw [if_pos (by omega)] at hA; exact ⟨rfl, _, rfl, hA⟩)
              | (rw [if_neg (by omega)] at hA; exact ⟨rfl, _, rfl, hA⟩)
      · have hA : P (some (.int (if fb_ct (oneF (qI w k).1 (qI w l).1) (aN (wA w)) = 0 then 1 else 0))) S69 := h1 k l 4 S69 hk rfl hl rfl (by decide) c96 hfr
        rw [gO] at hA
        refine z_iload dX9_two_170 rfl ?_
        refine z_iload dX9_two_172 rfl ?_
        refine z_icmp_ne 181 dX9_two_174 (by decide) (fun c174 => ?_) (fun c174 => ?_)
        · have d1 : ¬ nB + nO1 = nB := fun q => c174 (by rw [q])
          refine z_iconst 0 dX9_two_181 rfl ?_
          refine z_ireturn dX9_two_182 rfl rfl ⟨Nat.le_refl _, Nat.le_refl _⟩ ?_
          first
            | (rw [if_pos (by omega)] at hA; exact ⟨rfl, _, rfl, hA⟩)
            | (rw [if_neg (by omega)] at hA; exact ⟨rfl, _, rfl, hA⟩)
        · have d1 := (nI_eq (by omega) (by omega)).mp c174
          refine z_iconst 1 dX9_two_177 rfl ?_
          refine z_goto 182 dX9_two_178 (by decide) ?_
          refine z_ireturn dX9_two_182 rfl rfl ⟨Nat.le_refl _, Nat.le_refl _⟩ ?_
          first
            | (rw [if_pos (by omega)] at hA; exact ⟨rfl, _, rfl, hA⟩)
            | (rw [if_neg (by omega)] at hA; exact ⟨rfl, _, rfl, hA⟩)
      · refine z_iconst (-1) dX9_two_183 rfl ?_
        refine z_ireturn dX9_two_184 rfl rfl ⟨Nat.le_refl _, Nat.le_refl _⟩ ?_
        exact ⟨rfl, _, rfl, h0 _ (fun q => by
          obtain ⟨j, hj, e⟩ := rg_t (by decide) q.2.2
          exact c96 j (Nat.zero_le _) hj e) hfr⟩
    · refine z_iconst (-1) dX9_two_16 rfl ?_
      refine z_ireturn dX9_two_17 rfl rfl ⟨Nat.le_refl _, Nat.le_refl _⟩ ?_
      first
        | exact ⟨rfl, _, rfl, h0 _ (fun q => zoT q.1 c5) frS.rf⟩
        | exact ⟨rfl, _, rfl, h0 _ (fun q => zoT q.2.1 c13) frS.rf⟩
        | skip
end RCC

