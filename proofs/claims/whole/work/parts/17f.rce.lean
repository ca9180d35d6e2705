/-! ===== RunColumns: ends, books, judging, reading ===== -/
abbrev eR (w : Wd) : Nat × (Nat → Nat → Nat) := pRun (wA w) (wg w) (aP (wA w))
abbrev eI (w : Wd) (k : Nat) : It := sem (eR w).1 (eR w).2 (wnd w k) (wN w k - 1)
/-- what is otherwise now in the book -/
def lkP (w : Wd) : Nat → Bool := fun i => decide (¬ nI (qct w (wg w (527 + 2 * i)).toNatClampNeg) = wg w (527 + 2 * i + 1))
theorem lt_sub {z r j : Nat} (hz : z ≤ 60) (hr : r ≤ 120) (hj : j < 2 ^ 31) (h : nI j < nI z - nI r) : j + r < z := by
  have h1 := Int32.lt_iff_toInt_lt.mp h
  rw [nI_toInt hj, pk_sub_toInt (by omega) (by omega)] at h1
  omega
abbrev wQry (w : Wd) : Wd := (w.1, w.2.1, (wq w + 1, fun k => if k = wq w then ((pAll (wtx w) (wL w)).n, (pAll (wtx w) (wL w)).nd) else w.2.2.1.2 k), (0, wtx w), w.2.2.2.2)
section RCE
variable {G : zG} {sh : Nat → Option zSh} {S : zSt} {x a n c k : Nat} {w : Wd} {P : Option Value → zSt → Prop}
theorem C_RC_ends {a b : Int32} (hT : tRC sh x) (hR : rRC S x w) (hW : wOK w) (h0 : ¬ (rg a (wq w) = true ∧ rg b 2 = true) → P (some (.int (-1))) S)
    (h1 : ∀ k S', k < wq w → a = nI k → rg b 2 = true → frS S (inScr x) S' → P (some (.int (if b = 0 then nI (fb_ct (eI w k).1 (eR w).1) else nI (runsN (eI w k).1 (eR w).1)))) S') : zR G m_RC_ends 7 sh [.ref x, .int a, .int b] S P := by
  obtain ⟨t0, t1, t2, t3, ⟨t4, t4q⟩, ⟨t5, t5t⟩, t6, t7, t8, t9, t10⟩ := id hT
  obtain ⟨u0, u1, u2, u3, u4, u5⟩ := id t1
  have u1a := u1.1
  obtain ⟨r0, rc, rh, rh2, ⟨rq8, rq0, rq⟩, ⟨rL, rtx⟩, rt⟩ := id hR
  obtain ⟨v0, v1, v2, v3, v4, v5⟩ := id r0
  have z0 : zi S (x + 1 + 1) 1 = nI (aN (wA w)) := v0.1
  obtain ⟨g0, gi, ⟨g2, g2q⟩, ⟨g3, g3x⟩, g4⟩ := id hW
  obtain ⟨⟨b1, b2, b3, b4, b5⟩, ⟨e1, e2, e3, e4, e5⟩, eV, eM, eMo, eS, eB⟩ := id g0
  have hv : ∀ j, j < aN (wA w) → ∀ c, c < 4 → aV (wA w) j c < 16 := fun j hj c hc => (eV j hj c hc).2
  have t6a := t6.1
  have t10a := t10.1
  have hbB := t6.2.2.2.2 0 (by decide)
  have hok := pRun_ok (A := wA w) (ga := wg w) ⟨b1, hv⟩ (aP (wA w))
  have hok1 : (eR w).1 ≤ 120 := hok.1
  refine s_meth 1 ⟨p_RC, rfl, Nat.le_of_ble_eq_true rfl⟩ rfl (fun sz => ?_)
  refine z_aload_n dX9_ends_0 rfl ?_
  refine z_iload_n dX9_ends_1 rfl ?_
  refine s_callV1 l_RC_152 (C_RC_isQuery hT hR) t0 dX9_ends_2 rfl rfl (Nat.le_of_ble_eq_true rfl) ⟨⟨by decide, by decide⟩, by decide, by decide⟩ ?_
  refine z_if_eq 17 dX9_ends_5 (by decide) (fun c5 => ?_) (fun c5 => ?_)
  · refine z_iconst (-1) dX9_ends_17 rfl ?_
    refine z_ireturn dX9_ends_18 rfl rfl ⟨Nat.le_refl _, Nat.le_refl _⟩ ?_
    first
      | exact ⟨rfl, _, rfl, h0 (fun q => zoT q.1 c5)⟩
      | exact ⟨rfl, _, rfl, h0 (fun q => Int32.not_lt.mpr (of_decide_eq_true q.2).1 c9)⟩
      | exact ⟨rfl, _, rfl, h0 (fun q => by
          obtain ⟨j, hj, rfl⟩ := rg_t (by decide) q.2
          exact c14 (nI_le (b := 1) (by omega) (by decide)))⟩
      | skip
  · refine z_iload_n dX9_ends_8 rfl ?_
    refine z_if_lt 17 dX9_ends_9 (by decide) (fun c9 => ?_) (fun c9 => ?_)
    · refine z_iconst (-1) dX9_ends_17 rfl ?_
      refine z_ireturn dX9_ends_18 rfl rfl ⟨Nat.le_refl _, Nat.le_refl _⟩ ?_
      first
        | exact ⟨rfl, _, rfl, h0 (fun q => zoT q.1 c5)⟩
        | exact ⟨rfl, _, rfl, h0 (fun q => Int32.not_lt.mpr (of_decide_eq_true q.2).1 c9)⟩
        | exact ⟨rfl, _, rfl, h0 (fun q => by
            obtain ⟨j, hj, rfl⟩ := rg_t (by decide) q.2
            exact c14 (nI_le (b := 1) (by omega) (by decide)))⟩
        | skip
    · refine z_iload_n dX9_ends_12 rfl ?_
      refine z_iconst 1 dX9_ends_13 rfl ?_
      refine z_icmp_le 19 dX9_ends_14 (by decide) (fun c14 => ?_) (fun c14 => ?_)
      · obtain ⟨k, hk, rfl⟩ := rg_t (by omega) (zo_ne0.mp c5)
        have hb2 : rg b 2 = true := by
          obtain ⟨j, hj, rfl⟩ := nI_of c9
          exact rg_n (by have := i_le (b := 1) hj (by decide) c14; omega) (by decide)
        refine z_aload_n dX9_ends_19 rfl ?_
        refine s_getr f_RC_14 dX9_ends_20 (by assumption) rfl ?_
        refine z_aload_n dX9_ends_23 rfl ?_
        refine s_getr f_RC_75 dX9_ends_24 (by assumption) rfl ?_
        refine n_callV0 l_RC_243 (C_State_tryPlan t1 t10 (by omega) r0 g0) u0 dX9_ends_27 rfl rfl (Nat.le_of_ble_eq_true rfl) ⟨⟨by decide, by decide⟩, by decide, by decide⟩ (fun S27 q27 => ?_)
        refine z_aload_n dX9_ends_30 rfl ?_
        refine s_getr f_RC_51 dX9_ends_31 (by assumption) rfl ?_
        refine z_aload_n dX9_ends_34 rfl ?_
        refine s_getr f_RC_34 dX9_ends_35 (by assumption) rfl ?_
        refine z_iload_n dX9_ends_38 rfl ?_
        refine s_aald (by decide) dX9_ends_39 t4 (vp_in_nI (by omega) (by decide)) (by rw [nI_clamp (by omega)]; exact if_pos (by omega)) ?_
        refine z_aload_n dX9_ends_40 rfl ?_
        refine s_getr f_RC_75 dX9_ends_41 (by assumption) rfl ?_
        refine n_callV0 l_RC_155 (C_Work_go (stk := stkF (wnd w k)) t6 (t4q k (by omega)) t10 ⟨by omega, by omega⟩ q27.2 hok1 hok.2 ((rq k hk).fr q27.1 (fun b b1 b2 => by unfold inRows; omega)) (g2q k hk)) t6a dX9_ends_44 rfl rfl (Nat.le_of_ble_eq_true rfl) ⟨⟨by decide, by decide⟩, by decide, by decide⟩ (fun S44 q44 => ?_)
        have hB : rBits S44 (x + 191 + 4) (eR w).1 (eI w k).1 := q44.2.1
        have hz : zi S44 (x + 233) 1 = nI (eR w).1 := (congrFun (q44.1 _ (by unfold inWork; omega)).1 1).trans q27.2.1
        have hA := h1 k S44 hk rfl hb2 ((q27.1.weaken (fun b hb => by unfold inRows at hb; unfold inScr; omega)).trans (q44.1.weaken (fun b hb => inW_Scr hb)))
        refine z_aload_n dX9_ends_47 rfl ?_
        refine s_getr f_RC_51 dX9_ends_48 (by assumption) rfl ?_
        refine s_callV1 l_RC_159 (C_Work_result t6) t6a dX9_ends_51 rfl rfl (Nat.le_of_ble_eq_true rfl) ⟨⟨by decide, by decide⟩, by decide, by decide⟩ ?_
        refine z_astore_n (lv' := [_, _, _, _]) dX9_ends_54 (by decide) rfl ?_
        refine z_iload_n dX9_ends_55 rfl ?_
        refine z_if_ne 66 dX9_ends_56 (by decide) (fun c56 => ?_) (fun c56 => ?_)
        · rw [if_neg c56, ← hB.runs (by omega)] at hA
          refine z_aload_n dX9_ends_66 rfl ?_
          refine z_aload_n dX9_ends_67 rfl ?_
          refine s_getr f_RC_75 dX9_ends_68 (by assumption) rfl ?_
          refine s_geti f_RC_96 dX9_ends_71 (by assumption) rfl ?_
          rw [hz]
          refine s_callV1 l_RC_130 (C_Bits_runsWithin hbB (by omega)) hbB dX9_ends_74 rfl rfl (Nat.le_of_ble_eq_true rfl) ⟨⟨by decide, by decide⟩, by decide, by decide⟩ ?_
          refine z_ireturn dX9_ends_77 rfl rfl ⟨Nat.le_refl _, Nat.le_refl _⟩ ?_
          exact ⟨rfl, _, rfl, hA⟩
        · rw [if_pos c56, ← hB.ct (by omega)] at hA
          refine z_aload_n dX9_ends_59 rfl ?_
          refine s_callV1 l_RC_163 (C_Bits_ones hbB) hbB dX9_ends_60 rfl rfl (Nat.le_of_ble_eq_true rfl) ⟨⟨by decide, by decide⟩, by decide, by decide⟩ ?_
          refine z_goto 77 dX9_ends_63 (by decide) ?_
          refine z_ireturn dX9_ends_77 rfl rfl ⟨Nat.le_refl _, Nat.le_refl _⟩ ?_
          exact ⟨rfl, _, rfl, hA⟩
      · refine z_iconst (-1) dX9_ends_17 rfl ?_
        refine z_ireturn dX9_ends_18 rfl rfl ⟨Nat.le_refl _, Nat.le_refl _⟩ ?_
        first
          | exact ⟨rfl, _, rfl, h0 (fun q => zoT q.1 c5)⟩
          | exact ⟨rfl, _, rfl, h0 (fun q => Int32.not_lt.mpr (of_decide_eq_true q.2).1 c9)⟩
          | exact ⟨rfl, _, rfl, h0 (fun q => by
              obtain ⟨j, hj, rfl⟩ := rg_t (by decide) q.2
              exact c14 (nI_le (b := 1) (by omega) (by decide)))⟩
          | skip
theorem C_RC_looked (hT : tRC sh x) (hR : rRC S x w) (hW : wOK w) (h1 : ∀ S', frS S (inScr x) S' → P (some (.int (ffN (lkP w) (aB (wA w)) 0))) S') : zR G m_RC_looked 7 sh [.ref x] S P := by
  obtain ⟨t0, t1, t2, t3, ⟨t4, t4q⟩, ⟨t5, t5t⟩, t6, t7, t8, t9, t10⟩ := id hT
  obtain ⟨u0, u1, u2, u3, u4, u5⟩ := id t1
  have u1a := u1.1
  obtain ⟨r0, rc, rh, rh2, ⟨rq8, rq0, rq⟩, ⟨rL, rtx⟩, rt⟩ := id hR
  obtain ⟨v0, v1, v2, v3, v4, v5⟩ := id r0
  have z0 : zi S (x + 1 + 1) 1 = nI (aN (wA w)) := v0.1
  obtain ⟨g0, gi, ⟨g2, g2q⟩, ⟨g3, g3x⟩, g4⟩ := id hW
  obtain ⟨⟨b1, b2, b3, b4, b5⟩, ⟨e1, e2, e3, e4, e5⟩, eV, eM, eMo, eS, eB⟩ := id g0
  have hv : ∀ j, j < aN (wA w) → ∀ c, c < 4 → aV (wA w) j c < 16 := fun j hj c hc => (eV j hj c hc).2
  have u5a := u5.1
  have hbB := t6.2.2.2.2 0 (by decide)
  refine s_meth 2 ⟨p_RC, rfl, Nat.le_of_ble_eq_true rfl⟩ rfl (fun sz => ?_)
  have loop : ∀ d i S', aB (wA w) - i = d → i ≤ aB (wA w) → frS S (inScr x) S' → ffN (lkP w) d i = ffN (lkP w) (aB (wA w)) 0 → zW G m_RC_looked (zRm 7 0 0) (zFm G (zP sh sz P) 0 0) 0 0 10 [some (.ref x), some (.ref (x + 1 + 90)), some (.int (nI i))] [] (zhp sh S') sz := by
    intro d
    induction d with
    | zero =>
      intro i S' g1 g2 g3 g4
      have hR' := hR.fr g3 (fun b h1 h2 h3 => by unfold inScr; omega)
      have hv5 := hR'.1.2.2.2.2.2
      have hi : i = aB (wA w) := by omega
      have hA := h1 S' g3
      rw [← g4] at hA
      subst hi
      refine z_iload_n dX9_looked_10 rfl ?_
      refine z_aload_n dX9_looked_11 rfl ?_
      refine s_geti f_RC_216 dX9_looked_12 (by assumption) rfl ?_
      refine z_icmp_ge 48 dX9_looked_15 (by decide) (fun c15 => ?_) (fun c15 => ?_)
      · refine z_bipush (-5) dX9_looked_48 (by decide) ?_
        refine z_ireturn dX9_looked_50 rfl rfl ⟨Nat.le_refl _, Nat.le_refl _⟩ ?_
        exact ⟨rfl, _, rfl, hA⟩
      · rw [hv5.2.1] at c15
        exact absurd (nI_le (Nat.le_refl _) (by omega)) c15
    | succ d ih =>
      intro i S' g1 g2 g3 g4
      have hR' := hR.fr g3 (fun b h1 h2 h3 => by unfold inScr; omega)
      have hv5 := hR'.1.2.2.2.2.2
      obtain ⟨f1, f2⟩ := hv5.2.2 i (by omega)
      obtain ⟨k, hk, ek⟩ := eB i (by omega)
      have hlk : lkP w i = decide (¬ nI (qct w k) = wg w (527 + 2 * i + 1)) := by unfold lkP; rw [ek, nI_clamp (by omega)]
      have st : ffN (lkP w) (d + 1) i = if lkP w i = true then nI i else ffN (lkP w) d (i + 1) := rfl
      refine z_iload_n dX9_looked_10 rfl ?_
      refine z_aload_n dX9_looked_11 rfl ?_
      refine s_geti f_RC_216 dX9_looked_12 (by assumption) rfl ?_
      refine z_icmp_ge 48 dX9_looked_15 (by decide) (fun c15 => ?_) (fun c15 => ?_)
      · rw [hv5.2.1] at c15
        exact absurd c15 (nI_ge (by omega) (by omega))
      · refine z_aload_n dX9_looked_18 rfl ?_
        refine z_aload_n dX9_looked_19 rfl ?_
        refine s_getr f_RC_250 dX9_looked_20 (by assumption) rfl ?_
        refine z_iload_n dX9_looked_23 rfl ?_
        refine s_iald dX9_looked_24 u5.2.1 (vp_in_nI (by omega) (by decide)) ?_
        rw [nI_clamp (by omega), f1, ek]
        refine n_callV1 l_RC_179 (C_RC_resultOf hT hR' hW hk) t0 dX9_looked_25 rfl rfl (Nat.le_of_ble_eq_true rfl) ⟨⟨by decide, by decide⟩, by decide, by decide⟩ (fun S25 q25 => ?_)
        refine s_callV1 l_RC_163 (C_Bits_ones hbB) hbB dX9_looked_28 rfl rfl (Nat.le_of_ble_eq_true rfl) ⟨⟨by decide, by decide⟩, by decide, by decide⟩ ?_
        refine z_aload_n dX9_looked_31 rfl ?_
        refine s_getr f_RC_253 dX9_looked_32 (by assumption) rfl ?_
        refine z_iload_n dX9_looked_35 rfl ?_
        refine s_iald dX9_looked_36 u5.2.2 (vp_in_nI (by omega) (by decide)) ?_
        rw [nI_clamp (by omega), q25.2.ct (by omega), show za S25 (x + 1 + 90 + 2) i = wg w (527 + 2 * i + 1) from (congrFun (q25.1 _ (by unfold inWork; omega)).2.2.1 i).trans f2]
        refine z_icmp_eq 42 dX9_looked_37 (by decide) (fun c37 => ?_) (fun c37 => ?_)
        · rw [if_neg (by rw [hlk]; simpa using c37)] at st
          refine z_iinc (lv' := [_, _, _]) 1 dX9_looked_42 rfl (by decide) rfl rfl ?_
          refine z_goto 10 dX9_looked_45 (by decide) ?_
          rw [nI_1]
          exact ih (i + 1) _ (by omega) (by omega) (g3.trans (q25.1.weaken (fun b hb => inW_Scr hb))) (st.symm.trans g4)
        · rw [if_pos (by rw [hlk]; simpa using c37)] at st
          refine z_iload_n dX9_looked_40 rfl ?_
          refine z_ireturn dX9_looked_41 rfl rfl ⟨Nat.le_refl _, Nat.le_refl _⟩ ?_
          have hA := h1 S25 (g3.trans (q25.1.weaken (fun b hb => inW_Scr hb)))
          rw [← g4, st] at hA
          exact ⟨rfl, _, rfl, hA⟩
  refine z_aload_n dX9_looked_0 rfl ?_
  refine s_getr f_RC_14 dX9_looked_1 (by assumption) rfl ?_
  refine s_getr f_RC_247 dX9_looked_4 (by assumption) rfl ?_
  refine z_astore_n (lv' := [_, _, _]) dX9_looked_7 (by decide) rfl ?_
  refine z_iconst 0 dX9_looked_8 rfl ?_
  refine z_istore_n (lv' := [_, _, _]) dX9_looked_9 (by decide) rfl ?_
  exact loop (aB (wA w)) 0 S rfl (Nat.zero_le _) frS.rf rfl
theorem C_RC_judge {a b y : Int32} (hT : tRC sh x) (hR : rRC S x w) (hW : wOK w) (h0 : ¬ (rg a (wq w) = true ∧ rg b 6 = true) → P (some (.int (-1))) S)
    (hc : ∀ k t, k < wq w → a = nI k → t < 6 → b = nI t → ¬ wts w t = -1 → ¬ wts w t = nI 4 → P (some (.int (-12))) S)
    (h1 : ∀ k t S', k < wq w → a = nI k → t < 6 → b = nI t → (wts w t = -1 ∨ wts w t = nI 4) → frS S (inScr x) S' → P (some (.int (jdN (qI w k).1 (wti w t) (wtz w t) y (aN (wA w)) 0))) S') : zR G m_RC_judge 7 sh [.ref x, .int a, .int b, .int y] S P := by
  obtain ⟨t0, t1, t2, t3, ⟨t4, t4q⟩, ⟨t5, t5t⟩, t6, t7, t8, t9, t10⟩ := id hT
  obtain ⟨u0, u1, u2, u3, u4, u5⟩ := id t1
  have u1a := u1.1
  obtain ⟨r0, rc, rh, rh2, ⟨rq8, rq0, rq⟩, ⟨rL, rtx⟩, rt⟩ := id hR
  obtain ⟨v0, v1, v2, v3, v4, v5⟩ := id r0
  have z0 : zi S (x + 1 + 1) 1 = nI (aN (wA w)) := v0.1
  obtain ⟨g0, gi, ⟨g2, g2q⟩, ⟨g3, g3x⟩, g4⟩ := id hW
  obtain ⟨⟨b1, b2, b3, b4, b5⟩, ⟨e1, e2, e3, e4, e5⟩, eV, eM, eMo, eS, eB⟩ := id g0
  have hv : ∀ j, j < aN (wA w) → ∀ c, c < 4 → aV (wA w) j c < 16 := fun j hj c hc => (eV j hj c hc).2
  have hbB := t6.2.2.2.2 0 (by decide)
  refine s_meth 3 ⟨p_RC, rfl, Nat.le_of_ble_eq_true rfl⟩ rfl (fun sz => ?_)
  have main : ∀ k t S', k < wq w → t < 6 → frS S (inWork (x + 191)) S' → rBits S' (x + 191 + 4) (aN (wA w)) (qI w k).1 → P (some (.int (jdN (qI w k).1 (wti w t) (wtz w t) y (aN (wA w)) 0))) S' → ∀ d r, aN (wA w) - r = d → r ≤ aN (wA w) → jdN (qI w k).1 (wti w t) (wtz w t) y d r = jdN (qI w k).1 (wti w t) (wtz w t) y (aN (wA w)) 0 → zW G m_RC_judge (zRm 7 0 0) (zFm G (zP sh sz P) 0 0) 0 0 55 [some (.ref x), some (.int a), some (.int b), some (.int y), some (.ref (x + 355 + 2 * t)), some (.ref (x + 191 + 4)), some (.int (nI r))] [] (zhp sh S') sz := by
    intro k t S' hk ht hf hB hA d
    have hz : zi S' (x + 1 + 1) 1 = nI (aN (wA w)) := (congrFun (hf _ (by unfold inWork; omega)).1 1).trans z0
    have hts : zi S' (x + 355 + 2 * t) 2 = nI (wtz w t) := (congrFun (hf _ (by unfold inWork; omega)).1 2).trans (rt t ht).2.1
    have hti : ∀ i, i < 60 → zj S' (x + 355 + 2 * t + 1) i = wti w t i := fun i hi => (congrFun (hf _ (by unfold inWork; omega)).2.2.2 i).trans ((rt t ht).2.2 i hi)
    have hz60 : wtz w t ≤ 60 := (g4 t ht).2.1
    have tta := (t5t t ht).1
    induction d with
    | zero =>
      intro r g1 g2 g3
      have hr : r = aN (wA w) := by omega
      rw [← g3] at hA
      subst hr
      refine z_iload dX9_judge_55 rfl ?_
      refine z_aload_n dX9_judge_57 rfl ?_
      refine s_getr f_RC_14 dX9_judge_58 (by assumption) rfl ?_
      refine s_getr f_RC_85 dX9_judge_61 (by assumption) rfl ?_
      refine s_geti f_RC_96 dX9_judge_64 (by assumption) rfl ?_
      refine z_icmp_ge 132 dX9_judge_67 (by decide) (fun c67 => ?_) (fun c67 => ?_)
      · refine z_bipush (-5) dX9_judge_132 (by decide) ?_
        refine z_ireturn dX9_judge_134 rfl rfl ⟨Nat.le_refl _, Nat.le_refl _⟩ ?_
        exact ⟨rfl, _, rfl, hA⟩
      · rw [hz] at c67
        exact absurd (nI_le (Nat.le_refl _) (by omega)) c67
    | succ d ih =>
      intro r g1 g2 g3
      have hbit : bq S' (x + 191 + 4) r = (qI w k).1 r := by
        rw [hB r (by omega), decide_eq_true (show r < aN (wA w) by omega), Bool.true_and]
      have st : jdN (qI w k).1 (wti w t) (wtz w t) y (d + 1) r = if y < 0 ∨ nI (wtz w t) - nI r ≤ y then 1000 + nI r else if decide (wti w t (y.toNatClampNeg + r) ≠ 0) = (qI w k).1 r then jdN (qI w k).1 (wti w t) (wtz w t) y d (r + 1) else nI r := rfl
      refine z_iload dX9_judge_55 rfl ?_
      refine z_aload_n dX9_judge_57 rfl ?_
      refine s_getr f_RC_14 dX9_judge_58 (by assumption) rfl ?_
      refine s_getr f_RC_85 dX9_judge_61 (by assumption) rfl ?_
      refine s_geti f_RC_96 dX9_judge_64 (by assumption) rfl ?_
      refine z_icmp_ge 132 dX9_judge_67 (by decide) (fun c67 => ?_) (fun c67 => ?_)
      · rw [hz] at c67
        exact absurd c67 (nI_ge (by omega) (by omega))
      · refine z_iload_n dX9_judge_70 rfl ?_
        refine z_if_lt 86 dX9_judge_71 (by decide) (fun c71 => ?_) (fun c71 => ?_)
        · rw [if_pos (Or.inl c71)] at st
          refine z_sipush 1000 dX9_judge_86 (by decide) ?_
          refine z_iload dX9_judge_89 rfl ?_
          refine z_iadd dX9_judge_91 ?_
          refine z_ireturn dX9_judge_92 rfl rfl ⟨Nat.le_refl _, Nat.le_refl _⟩ ?_
          rw [← g3, st] at hA
          exact ⟨rfl, _, rfl, hA⟩
        · refine z_iload_n dX9_judge_74 rfl ?_
          refine z_aload dX9_judge_75 rfl ?_
          refine s_geti f_RC_265 dX9_judge_77 (by assumption) rfl ?_
          refine z_iload dX9_judge_80 rfl ?_
          refine z_isub dX9_judge_82 ?_
          rw [hts]
          refine z_icmp_lt 93 dX9_judge_83 (by decide) (fun c83 => ?_) (fun c83 => ?_)
          · rw [if_neg (fun q => q.elim c71 (fun q => Int32.not_lt.mpr q c83))] at st
            obtain ⟨j, hj, rfl⟩ := nI_of c71
            have hjr := lt_sub hz60 (by omega) hj c83
            rw [nI_clamp hj] at st
            refine z_aload dX9_judge_93 rfl ?_
            refine s_getr f_RC_266 dX9_judge_95 (by assumption) rfl ?_
            refine z_iload_n dX9_judge_98 rfl ?_
            refine z_iload dX9_judge_99 rfl ?_
            refine z_iadd dX9_judge_101 ?_
            rw [nI_add]
            refine s_lald dX9_judge_102 ((t5t t ht).2) (vp_in_nI (by omega) (by decide)) ?_
            rw [nI_clamp (by omega), hti _ (by omega)]
            refine z_lconst 0 dX9_judge_103 (by decide) ?_
            refine z_lcmp dX9_judge_104 ?_
            refine z_if_eq 112 dX9_judge_105 (by decide) (fun c105 => ?_) (fun c105 => ?_)
            · have hit := lgc0.mp c105
              refine z_iconst 0 dX9_judge_112 rfl ?_
              refine z_aload dX9_judge_113 rfl ?_
              refine z_iload dX9_judge_115 rfl ?_
              refine s_callV1 l_RC_140 (C_Bits_has hbB (by omega)) hbB dX9_judge_117 rfl rfl (Nat.le_of_ble_eq_true rfl) ⟨⟨by decide, by decide⟩, by decide, by decide⟩ ?_
              rw [hbit]
              refine z_icmp_eq 126 dX9_judge_120 (by decide) (fun c120 => ?_) (fun c120 => ?_)
              · rw [if_pos (by revert c120 hit; cases (qI w k).1 r <;> simp [zo])] at st
                refine z_iinc (lv' := [_, _, _, _, _, _, _]) 1 dX9_judge_126 rfl (by decide) rfl rfl ?_
                refine z_goto 55 dX9_judge_129 (by decide) ?_
                rw [nI_1]
                exact ih (r + 1) (by omega) (by omega) (st.symm.trans g3)
              · rw [if_neg (by revert c120 hit; cases (qI w k).1 r <;> simp [zo])] at st
                refine z_iload dX9_judge_123 rfl ?_
                refine z_ireturn dX9_judge_125 rfl rfl ⟨Nat.le_refl _, Nat.le_refl _⟩ ?_
                rw [← g3, st] at hA
                exact ⟨rfl, _, rfl, hA⟩
            · have hit : ¬ wti w t (j + r) = 0 := fun q => c105 (lgc0.mpr q)
              refine z_iconst 1 dX9_judge_108 rfl ?_
              refine z_goto 113 dX9_judge_109 (by decide) ?_
              refine z_aload dX9_judge_113 rfl ?_
              refine z_iload dX9_judge_115 rfl ?_
              refine s_callV1 l_RC_140 (C_Bits_has hbB (by omega)) hbB dX9_judge_117 rfl rfl (Nat.le_of_ble_eq_true rfl) ⟨⟨by decide, by decide⟩, by decide, by decide⟩ ?_
              rw [hbit]
              refine z_icmp_eq 126 dX9_judge_120 (by decide) (fun c120 => ?_) (fun c120 => ?_)
              · rw [if_pos (by revert c120 hit; cases (qI w k).1 r <;> simp [zo])] at st
                refine z_iinc (lv' := [_, _, _, _, _, _, _]) 1 dX9_judge_126 rfl (by decide) rfl rfl ?_
                refine z_goto 55 dX9_judge_129 (by decide) ?_
                rw [nI_1]
                exact ih (r + 1) (by omega) (by omega) (st.symm.trans g3)
              · rw [if_neg (by revert c120 hit; cases (qI w k).1 r <;> simp [zo])] at st
                refine z_iload dX9_judge_123 rfl ?_
                refine z_ireturn dX9_judge_125 rfl rfl ⟨Nat.le_refl _, Nat.le_refl _⟩ ?_
                rw [← g3, st] at hA
                exact ⟨rfl, _, rfl, hA⟩
          · rw [if_pos (Or.inr (Int32.not_lt.mp c83))] at st
            refine z_sipush 1000 dX9_judge_86 (by decide) ?_
            refine z_iload dX9_judge_89 rfl ?_
            refine z_iadd dX9_judge_91 ?_
            refine z_ireturn dX9_judge_92 rfl rfl ⟨Nat.le_refl _, Nat.le_refl _⟩ ?_
            rw [← g3, st] at hA
            exact ⟨rfl, _, rfl, hA⟩
  refine z_aload_n dX9_judge_0 rfl ?_
  refine z_iload_n dX9_judge_1 rfl ?_
  refine s_callV1 l_RC_152 (C_RC_isQuery hT hR) t0 dX9_judge_2 rfl rfl (Nat.le_of_ble_eq_true rfl) ⟨⟨by decide, by decide⟩, by decide, by decide⟩ ?_
  refine z_if_eq 15 dX9_judge_5 (by decide) (fun c5 => ?_) (fun c5 => ?_)
  · refine z_iconst (-1) dX9_judge_15 rfl ?_
    refine z_ireturn dX9_judge_16 rfl rfl ⟨Nat.le_refl _, Nat.le_refl _⟩ ?_
    first
      | exact ⟨rfl, _, rfl, h0 (fun q => zoT q.1 c5)⟩
      | exact ⟨rfl, _, rfl, h0 (fun q => zoT q.2 c12)⟩
      | skip
  · refine z_iload_n dX9_judge_8 rfl ?_
    refine s_callS1 l_RC_256 (C_RC_isTape) dX9_judge_9 rfl rfl (Nat.le_of_ble_eq_true rfl) ⟨⟨by decide, by decide⟩, by decide, by decide⟩ ?_
    refine z_if_ne 17 dX9_judge_12 (by decide) (fun c12 => ?_) (fun c12 => ?_)
    · obtain ⟨k, hk, rfl⟩ := rg_t (by omega) (zo_ne0.mp c5)
      obtain ⟨t, ht, rfl⟩ := rg_t (by decide) (zo_ne0.mp c12)
      have w1 := (rt t ht).1
      refine z_aload_n dX9_judge_17 rfl ?_
      refine s_getr f_RC_44 dX9_judge_18 (by assumption) rfl ?_
      refine z_iload_n dX9_judge_21 rfl ?_
      refine s_aald (by decide) dX9_judge_22 t5 (vp_in_nI ht (by decide)) (by rw [nI_clamp (by omega)]; exact if_pos ht) ?_
      refine z_astore (lv' := [_, _, _, _, _, _, _]) dX9_judge_23 (by decide) rfl ?_
      refine z_aload dX9_judge_25 rfl ?_
      refine s_callV1 l_RC_259 (C_Tape_isNothing (t5t t ht)) (t5t t ht).1 dX9_judge_27 rfl rfl (Nat.le_of_ble_eq_true rfl) ⟨⟨by decide, by decide⟩, by decide, by decide⟩ ?_
      refine z_if_ne 45 dX9_judge_30 (by decide) (fun c30 => ?_) (fun c30 => ?_)
      · have hn : wts w t = -1 ∨ wts w t = nI 4 := Or.inl (w1.symm.trans (of_decide_eq_true (zo_ne0.mp c30)))
        refine z_aload_n dX9_judge_45 rfl ?_
        refine z_iload_n dX9_judge_46 rfl ?_
        refine n_callV1 l_RC_179 (C_RC_resultOf hT hR hW hk) t0 dX9_judge_47 rfl rfl (Nat.le_of_ble_eq_true rfl) ⟨⟨by decide, by decide⟩, by decide, by decide⟩ (fun S47 q47 => ?_)
        refine z_astore (lv' := [_, _, _, _, _, _, _]) dX9_judge_50 (by decide) rfl ?_
        refine z_iconst 0 dX9_judge_52 rfl ?_
        refine z_istore (lv' := [_, _, _, _, _, _, _]) dX9_judge_53 (by decide) rfl ?_
        exact main k t _ hk ht q47.1 q47.2 (h1 k t _ hk rfl ht rfl hn (q47.1.weaken (fun b hb => inW_Scr hb))) (aN (wA w)) 0 rfl (Nat.zero_le _) rfl
      · have hn1 : ¬ wts w t = -1 := fun q => of_decide_eq_false (zo_eq0.mp c30) (w1.trans q)
        refine z_aload dX9_judge_33 rfl ?_
        refine s_geti f_RC_262 dX9_judge_35 (t5t t ht).1 rfl ?_
        refine z_iconst 4 dX9_judge_38 rfl ?_
        refine z_icmp_eq 45 dX9_judge_39 (by decide) (fun c39 => ?_) (fun c39 => ?_)
        · rw [w1] at c39
          have hn : wts w t = -1 ∨ wts w t = nI 4 := Or.inr c39
          refine z_aload_n dX9_judge_45 rfl ?_
          refine z_iload_n dX9_judge_46 rfl ?_
          refine n_callV1 l_RC_179 (C_RC_resultOf hT hR hW hk) t0 dX9_judge_47 rfl rfl (Nat.le_of_ble_eq_true rfl) ⟨⟨by decide, by decide⟩, by decide, by decide⟩ (fun S47 q47 => ?_)
          refine z_astore (lv' := [_, _, _, _, _, _, _]) dX9_judge_50 (by decide) rfl ?_
          refine z_iconst 0 dX9_judge_52 rfl ?_
          refine z_istore (lv' := [_, _, _, _, _, _, _]) dX9_judge_53 (by decide) rfl ?_
          exact main k t _ hk ht q47.1 q47.2 (h1 k t _ hk rfl ht rfl hn (q47.1.weaken (fun b hb => inW_Scr hb))) (aN (wA w)) 0 rfl (Nat.zero_le _) rfl
        · rw [w1] at c39
          refine z_bipush (-12) dX9_judge_42 (by decide) ?_
          refine z_ireturn dX9_judge_44 rfl rfl ⟨Nat.le_refl _, Nat.le_refl _⟩ ?_
          exact ⟨rfl, _, rfl, hc k t hk rfl ht rfl hn1 c39⟩
    · refine z_iconst (-1) dX9_judge_15 rfl ?_
      refine z_ireturn dX9_judge_16 rfl rfl ⟨Nat.le_refl _, Nat.le_refl _⟩ ?_
      first
        | exact ⟨rfl, _, rfl, h0 (fun q => zoT q.1 c5)⟩
        | exact ⟨rfl, _, rfl, h0 (fun q => zoT q.2 c12)⟩
        | skip
theorem C_RC_query (hT : tRC sh x) (hR : rRC S x w) (hW : wOK w) (h0 : wq w = 8 → P (some (.int (-4))) S)
    (h1 : ∀ S', wq w < 8 → 0 ≤ (pAll (wtx w) (wL w)).f → frS S (inX x) S' → rRC S' x (wText w 0 (wtx w)) → P (some (.int (-10 - (pAll (wtx w) (wL w)).f))) S')
    (h2 : ∀ S', wq w < 8 → (pAll (wtx w) (wL w)).f = -1 → frS S (inX x) S' → rRC S' x (wQry w) → P (some (.int (nI (wq w)))) S') : zR G m_RC_query 32 sh [.ref x] S P := by
  obtain ⟨t0, t1, t2, t3, ⟨t4, t4q⟩, ⟨t5, t5t⟩, t6, t7, t8, t9, t10⟩ := id hT
  obtain ⟨u0, u1, u2, u3, u4, u5⟩ := id t1
  have u1a := u1.1
  obtain ⟨r0, rc, rh, rh2, ⟨rq8, rq0, rq⟩, ⟨rL, rtx⟩, rt⟩ := id hR
  obtain ⟨v0, v1, v2, v3, v4, v5⟩ := id r0
  have z0 : zi S (x + 1 + 1) 1 = nI (aN (wA w)) := v0.1
  obtain ⟨g0, gi, ⟨g2, g2q⟩, ⟨g3, g3x⟩, g4⟩ := id hW
  obtain ⟨⟨b1, b2, b3, b4, b5⟩, ⟨e1, e2, e3, e4, e5⟩, eV, eM, eMo, eS, eB⟩ := id g0
  have hv : ∀ j, j < aN (wA w) → ∀ c, c < 4 → aV (wA w) j c < 16 := fun j hj c hc => (eV j hj c hc).2
  have t3a := t3.1
  refine s_meth 1 ⟨p_RC, rfl, Nat.le_of_ble_eq_true rfl⟩ rfl (fun sz => ?_)
  refine z_aload_n dX9_query_0 rfl ?_
  refine s_geti f_RC_38 dX9_query_1 (by assumption) rfl ?_
  refine z_bipush 8 dX9_query_4 (by decide) ?_
  refine z_icmp_lt 12 dX9_query_6 (by decide) (fun c6 => ?_) (fun c6 => ?_)
  · rw [rq0] at c6
    have h8 := i_lt (b := 8) (by omega) (by decide) c6
    refine z_aload_n dX9_query_12 rfl ?_
    refine s_getr f_RC_28 dX9_query_13 (by assumption) rfl ?_
    refine z_aload_n dX9_query_16 rfl ?_
    refine s_getr f_RC_34 dX9_query_17 (by assumption) rfl ?_
    refine z_aload_n dX9_query_20 rfl ?_
    refine s_geti f_RC_38 dX9_query_21 (by assumption) rfl ?_
    rw [rq0]
    refine s_aald (by decide) dX9_query_24 t4 (vp_in_nI h8 (by decide)) (by rw [nI_clamp (by omega)]; exact if_pos h8) ?_
    refine n_callV1 l_RC_148 (C_Reader_readInto t3 (t4q (wq w) h8) (by omega) g3 rL rtx) t3a dX9_query_25 rfl rfl (Nat.le_of_ble_eq_true rfl) ⟨⟨by decide, by decide⟩, by decide, by decide⟩ (fun S25 q25 => ?_)
    have o : ∀ b, x ≤ b → b < x + 315 + 5 * wq w ∨ x + 315 + 5 * wq w + 5 ≤ b → b ≠ x + 187 → ¬ inRQ (x + 187) (x + 315 + 5 * wq w) b := fun b h1 h2 h3 q => q.elim (fun e => h3 e) (fun e => by omega)
    have f1 : frS S25 (fun b => b = x + 187) (zsi S25 (x + 187) 1 0) := frS.seti rfl
    have e5 : zi (zsi S25 (x + 187) 1 0) x 5 = nI (wq w) := (zi_sin (by omega)).trans ((congrFun (q25.1 _ (o _ (by omega) (by omega) (by omega))).1 5).trans rq0)
    refine z_istore_n (lv' := [_, _]) dX9_query_28 (by decide) rfl ?_
    refine z_aload_n dX9_query_29 rfl ?_
    refine s_getr f_RC_28 dX9_query_30 (by assumption) rfl ?_
    refine z_iconst 0 dX9_query_33 rfl ?_
    refine s_puti f_RC_143 dX9_query_34 (by assumption) rfl ⟨rfl, rfl⟩ ?_
    refine z_iload_n dX9_query_37 rfl ?_
    refine z_if_lt 46 dX9_query_38 (by decide) (fun c38 => ?_) (fun c38 => ?_)
    · have hf : (pAll (wtx w) (wL w)).f = -1 := (pAll_p g3).resolve_right (fun q => Int32.not_lt.mpr q c38)
      have hwf := (pAll_wf g3 hf).2
      obtain ⟨q1, q2, cq, q3, q4, q5⟩ := q25.2
      have q6 := (q5 hf hwf.2.1).2
      refine z_aload_n dX9_query_46 rfl ?_
      refine z_dup dX9_query_47 rfl ?_
      refine s_geti f_RC_38 dX9_query_48 (by assumption) rfl ?_
      refine z_iconst 1 dX9_query_51 rfl ?_
      refine z_iadd dX9_query_52 ?_
      rw [e5, nI_1]
      refine s_puti f_RC_38 dX9_query_53 (by assumption) rfl ⟨rfl, rfl⟩ ?_
      refine z_aload_n dX9_query_56 rfl ?_
      refine s_geti f_RC_38 dX9_query_57 (by assumption) rfl ?_
      rw [zi_si]
      refine z_iconst 1 dX9_query_60 rfl ?_
      refine z_isub dX9_query_61 ?_
      rw [nI_pred]
      refine z_ireturn dX9_query_62 rfl rfl ⟨Nat.le_refl _, Nat.le_refl _⟩ ?_
      have f2 : frS S (fun b => b = x ∨ b = x + 187 ∨ (x + 315 + 5 * wq w ≤ b ∧ b < x + 315 + 5 * wq w + 5)) (zsi (zsi S25 (x + 187) 1 0) x 5 (nI (wq w + 1))) := ((q25.1.weaken (fun b hb => Or.inr hb)).trans (f1.weaken (fun b hb => Or.inr (Or.inl hb)))).trans (frS.seti (Or.inl rfl))
      have f3 : frS S25 (fun b => b = x ∨ b = x + 187) (zsi (zsi S25 (x + 187) 1 0) x 5 (nI (wq w + 1))) := (f1.weaken (fun b hb => Or.inr hb)).trans (frS.seti (Or.inl rfl))
      refine ⟨rfl, _, rfl, h2 _ h8 hf (f2.weaken (fun b hb => by unfold inX; omega)) (hR.upd (qs := (wQry w).2.2.1) (tx := (0, wtx w)) (ts := w.2.2.2.2) f2 (fun b b1 b2 => by omega) ?_ ⟨h8, zi_si, fun k hk => ?_⟩ ⟨(zi_sin (by omega)).trans zi_si, fun i hi => absurd hi (Nat.not_lt_zero _)⟩ (fun t ht => ⟨(congrFun (f2 _ (by omega)).1 1).trans (rt t ht).1, (congrFun (f2 _ (by omega)).1 2).trans (rt t ht).2.1, fun i hi => (congrFun (f2 _ (by omega)).2.2.2 i).trans ((rt t ht).2.2 i hi)⟩))⟩
      · exact (zi_sik (by decide)).trans ((zi_sin (by omega)).trans (congrFun (q25.1 _ (o _ (by omega) (by omega) (by omega))).1 2))
      · have hk : k < wq w + 1 := hk
        by_cases e : k = wq w
        · subst e
          show rQuery _ _ (if wq w = wq w then _ else _ : Nat × Nd).1 (if wq w = wq w then _ else _ : Nat × Nd).2
          rw [if_pos rfl]
          exact q6.fr f3 (fun b b1 b2 => by omega)
        · show rQuery _ _ (if k = wq w then _ else w.2.2.1.2 k : Nat × Nd).1 (if k = wq w then _ else w.2.2.1.2 k : Nat × Nd).2
          rw [if_neg e]
          exact (rq k (by omega)).fr f2 (fun b b1 b2 => by omega)
    · have hf : 0 ≤ (pAll (wtx w) (wL w)).f := Int32.not_lt.mp c38
      refine z_bipush (-10) dX9_query_41 (by decide) ?_
      refine z_iload_n dX9_query_43 rfl ?_
      refine z_isub dX9_query_44 ?_
      refine z_ireturn dX9_query_45 rfl rfl ⟨Nat.le_refl _, Nat.le_refl _⟩ ?_
      have f2 : frS S (fun b => b = x + 187 ∨ (x + 315 + 5 * wq w ≤ b ∧ b < x + 315 + 5 * wq w + 5)) (zsi S25 (x + 187) 1 0) := (q25.1.weaken (fun b hb => hb)).trans (f1.weaken (fun b hb => Or.inl hb))
      refine ⟨rfl, _, rfl, h1 _ h8 hf (f2.weaken (fun b hb => by unfold inX; omega)) (hR.upd (qs := w.2.2.1) (tx := (0, wtx w)) (ts := w.2.2.2.2) f2 (fun b b1 b2 => by omega) (congrFun (f2 _ (by omega)).1 2) ⟨rq8, e5, fun k hk => ?_⟩ ⟨zi_si, fun i hi => absurd hi (Nat.not_lt_zero _)⟩ (fun t ht => ⟨(congrFun (f2 _ (by omega)).1 1).trans (rt t ht).1, (congrFun (f2 _ (by omega)).1 2).trans (rt t ht).2.1, fun i hi => (congrFun (f2 _ (by omega)).2.2.2 i).trans ((rt t ht).2.2 i hi)⟩))⟩
      have hk : k < wq w := hk
      exact (rq k hk).fr f2 (fun b b1 b2 => by omega)
  · rw [rq0] at c6
    have h8 : wq w = 8 := by have := i_nlt (b := 8) (by decide) c6; omega
    refine z_bipush (-4) dX9_query_9 (by decide) ?_
    refine z_ireturn dX9_query_11 rfl rfl ⟨Nat.le_refl _, Nat.le_refl _⟩ ?_
    exact ⟨rfl, _, rfl, h0 h8⟩
end RCE

