/-! ===== the model: odds, means, ends, books, judging, shifts ===== -/
section MOH
variable {G : zG} {sh : Nat → Option zSh} {S : zSt} {m n c k j a b i q N : Nat} {w : Wd} {v : Nat → Nat → Nat} {nd : Nd} {stk : Nat → List Nat} {P : Option Value → zSt → Prop}
theorem C_Mo_common {a0 b0 : Nat} (ha : a0 < 2 ^ 31) (hb : b0 < 2 ^ 31) : zD G m_Mo_common 1 sh [.int (nI a0), .int (nI b0)] S (some (.int (nI (Nat.gcd a0 b0)))) S := by
  refine s_methD 3 ⟨p_Mo, rfl, Nat.le_of_ble_eq_true rfl⟩ rfl (fun sz => ?_)
  have loop : ∀ b a z, a < 2 ^ 31 → b < 2 ^ 31 → Nat.gcd a b = Nat.gcd a0 b0 → zW G m_Mo_common (zRm 1 0 0) (zFm G (zQe (some (.int (nI (Nat.gcd a0 b0)))) (zhp sh S) sz) 0 0) 0 0 4 [some (.int (nI a0)), some (.int (nI b0)), some (.int (nI a)), some (.int (nI b)), z] [] (zhp sh S) sz := by
    intro b
    induction b using Nat.strongRecOn with
    | _ b ih =>
      intro a z h1 h2 h3
      refine z_iload_n dX10_common_4 rfl ?_
      refine z_if_eq 21 dX10_common_5 (by decide) (fun c5 => ?_) (fun c5 => ?_)
      · have hb0 : b = 0 := (nI_eq (b := 0) (by omega) (by decide)).mp c5
        rw [hb0, Nat.gcd_zero_right] at h3
        rw [h3]
        refine z_iload_n dX10_common_21 rfl ?_
        refine z_ireturn dX10_common_22 rfl rfl ⟨Nat.le_refl _, Nat.le_refl _⟩ ?_
        exact ⟨rfl, rfl, rfl⟩
      · have hb0 : 0 < b := by
          rcases Nat.eq_zero_or_pos b with z | z
          · exact absurd (by rw [z]; rfl) c5
          · exact z
        have hm : a % b < b := Nat.mod_lt _ hb0
        refine z_iload_n dX10_common_8 rfl ?_
        refine z_iload_n dX10_common_9 rfl ?_
        refine z_irem dX10_common_10 (by assumption) ?_
        rw [pk_rem h1 hb0 h2]
        refine z_istore (lv' := [_, _, _, _, _]) dX10_common_11 (by decide) rfl ?_
        refine z_iload_n dX10_common_13 rfl ?_
        refine z_istore_n (lv' := [_, _, _, _, _]) dX10_common_14 (by decide) rfl ?_
        refine z_iload dX10_common_15 rfl ?_
        refine z_istore_n (lv' := [_, _, _, _, _]) dX10_common_17 (by decide) rfl ?_
        refine z_goto 4 dX10_common_18 (by decide) ?_
        exact ih (a % b) hm b _ h2 (by omega) (by rw [← gcd_st]; exact h3)
  refine z_iload_n dX10_common_0 rfl ?_
  refine z_istore_n (lv' := [_, _, _, _, _]) dX10_common_1 (by decide) rfl ?_
  refine z_iload_n dX10_common_2 rfl ?_
  refine z_istore_n (lv' := [_, _, _, _, _]) dX10_common_3 (by decide) rfl ?_
  exact loop b0 a0 _ ha hb rfl
theorem C_Mo_part {a0 b0 : Nat} {p : Int32} (ha : a0 < 2 ^ 31) (hb : b0 < 2 ^ 31) (h0 : 0 < b0) : zD G m_Mo_part 2 sh [.int (nI a0), .int (nI b0), .int p] S (some (.long (lowA a0 b0 p))) S := by
  have gp : 0 < Nat.gcd a0 b0 := Nat.gcd_pos_of_pos_right a0 h0
  have gl : Nat.gcd a0 b0 < 2 ^ 31 := Nat.lt_of_le_of_lt (Nat.gcd_le_right a0 h0) hb
  unfold lowA
  rw [if_neg (show ¬ b0 = 0 by omega)]
  refine s_methD 1 ⟨p_Mo, rfl, Nat.le_of_ble_eq_true rfl⟩ rfl (fun sz => ?_)
  refine z_iload_n dX10_part_0 rfl ?_
  refine z_iload_n dX10_part_1 rfl ?_
  refine s_callS1 l_Mo_179 (C_Mo_common ha hb) dX10_part_2 rfl rfl (Nat.le_of_ble_eq_true rfl) ⟨⟨by decide, by decide⟩, by decide, by decide⟩ ?_
  refine z_istore_n (lv' := [_, _, _, _]) dX10_part_5 (by decide) rfl ?_
  refine z_iload_n dX10_part_6 rfl ?_
  refine z_if_ne 17 dX10_part_7 (by decide) (fun c7 => ?_) (fun c7 => ?_)
  · rw [if_neg c7]
    refine z_iload_n dX10_part_17 rfl ?_
    refine z_iload_n dX10_part_18 rfl ?_
    refine z_idiv dX10_part_19 (nI_ne0 gp gl) ?_
    rw [pk_div (by omega) gp gl]
    refine z_i2l dX10_part_20 ?_
    refine z_lreturn dX10_part_21 rfl ⟨Nat.le_refl _, Nat.le_refl _⟩ ?_
    exact ⟨rfl, rfl, rfl⟩
  · rw [if_pos c7]
    refine z_iload_n dX10_part_10 rfl ?_
    refine z_iload_n dX10_part_11 rfl ?_
    refine z_idiv dX10_part_12 (nI_ne0 gp gl) ?_
    rw [pk_div (by omega) gp gl]
    refine z_i2l dX10_part_13 ?_
    refine z_goto 21 dX10_part_14 (by decide) ?_
    refine z_lreturn dX10_part_21 rfl ⟨Nat.le_refl _, Nat.le_refl _⟩ ?_
    exact ⟨rfl, rfl, rfl⟩
theorem C_Mo_odds {p r : Int32} (hM : tMo sh m) (hR : rMo S m w) (hW : wOK w) (h0 : ¬ (rg p (wq w) = true ∧ rg r 2 = true) → P (some (.long (-9223372036854775808))) S)
    (h1 : ∀ k, k < wq w → p = nI k → rg r 2 = true → P (some (.long (lowA (qct w k) (aN (wA w)) r))) S) : zR G m_Mo_odds 60 sh [.ref m, .int p, .int r] S P := by
  obtain ⟨m0, a1, a2, a3, a4, a5, a6, a7, a8, a9, a10, a11, a12, a13, a14, a15, a16, a22⟩ := id hM
  obtain ⟨k1, k2, k3, ⟨k4, kr⟩, ⟨kL, ktx⟩, kt⟩ := id hR
  obtain ⟨g0, gi, ⟨g2, g2q⟩, ⟨g3, g3x⟩, g4⟩ := id hW
  obtain ⟨⟨b1, b2, b3, b4, b5⟩, ⟨e1, e2, e3, e4, e5⟩, eV, eM, eMo, eS, eB⟩ := id g0
  have hv : ∀ j, j < aN (wA w) → ∀ c, c < 4 → aV (wA w) j c < 16 := fun j hj c hc => (eV j hj c hc).2
  have gr := hR.gr hW
  refine s_meth 0 ⟨p_Mo, rfl, Nat.le_of_ble_eq_true rfl⟩ rfl (fun sz => ?_)
  refine z_aload_n dX10_odds_0 rfl ?_
  refine z_iload_n dX10_odds_1 rfl ?_
  refine s_callV1 l_Mo_163 (C_Mo_isQuery hM k4 (by omega)) m0 dX10_odds_2 rfl rfl (Nat.le_of_ble_eq_true rfl) (rrm (by omega) (by decide)) ?_
  refine z_if_eq 28 dX10_odds_5 (by decide) (fun c5 => ?_) (fun c5 => ?_)
  · refine z_ldc2 (-9223372036854775808) v_Mo_182 dX10_odds_28 ?_
    refine z_lreturn dX10_odds_31 rfl ⟨Nat.le_refl _, Nat.le_refl _⟩ ?_
    first
      | exact ⟨rfl, _, rfl, hA⟩
      | exact ⟨rfl, _, rfl, h0 (fun q => zoT q.1 c5)⟩
      | exact ⟨rfl, _, rfl, h0 (fun q => zoT q.2 c14)⟩
      | skip
  · refine z_iload_n dX10_odds_8 rfl ?_
    refine z_iconst 0 dX10_odds_9 rfl ?_
    refine z_iconst 1 dX10_odds_10 rfl ?_
    refine s_callS1 l_Mo_63 (C_Mo_in0 (n := 2) (by decide) (by decide)) dX10_odds_11 rfl rfl (Nat.le_of_ble_eq_true rfl) (rrm (by omega) (by decide)) ?_
    refine z_if_eq 28 dX10_odds_14 (by decide) (fun c14 => ?_) (fun c14 => ?_)
    · refine z_ldc2 (-9223372036854775808) v_Mo_182 dX10_odds_28 ?_
      refine z_lreturn dX10_odds_31 rfl ⟨Nat.le_refl _, Nat.le_refl _⟩ ?_
      first
        | exact ⟨rfl, _, rfl, hA⟩
        | exact ⟨rfl, _, rfl, h0 (fun q => zoT q.1 c5)⟩
        | exact ⟨rfl, _, rfl, h0 (fun q => zoT q.2 c14)⟩
        | skip
    · obtain ⟨k, hk, rfl⟩ := rg_t (by omega) (zo_ne0.mp c5)
      have hQ := hR.mq hW hk
      have hN0 := (g2q k hk).1
      have hN50 := (g2q k hk).2.1
      have hA := h1 k hk rfl (zo_ne0.mp c14)
      have hct : qct w k ≤ 120 := Nat.le_trans (fb_ct_le _ _) b1
      refine z_aload_n dX10_odds_17 rfl ?_
      refine s_getr f_Mo_11 dX10_odds_18 (by assumption) rfl ?_
      refine z_sipush 480 dX10_odds_21 (by decide) ?_
      refine s_iald dX10_odds_24 (by assumption) (by first | assumption | exact vp_in_nI (by omega) (by omega) | (unfold vp_in; decide)) ?_
      rw [show (480 : Int32).toNatClampNeg = 480 from rfl, gr.1]
      refine z_if_ne 32 dX10_odds_25 (by decide) (fun c25 => ?_) (fun c25 => ?_)
      · have hn0 : ¬ aN (wA w) = 0 := fun z => c25 (by rw [z]; rfl)
        refine z_aload_n dX10_odds_32 rfl ?_
        refine z_aload_n dX10_odds_33 rfl ?_
        refine s_getr f_Mo_21 dX10_odds_34 (by assumption) rfl ?_
        refine z_iload_n dX10_odds_37 rfl ?_
        refine s_iald dX10_odds_38 a4 (vp_in_nI (by omega) (by decide)) ?_
        rw [nI_clamp (by omega), (kr k hk).1]
        refine s_callV1 l_Mo_166 (C_Mo_resultMany (i := wN w k - 1) hM hQ (by omega)) m0 dX10_odds_39 rfl rfl (Nat.le_of_ble_eq_true rfl) (rrm (by omega) (by decide)) ?_
        refine z_aload_n dX10_odds_42 rfl ?_
        refine s_getr f_Mo_11 dX10_odds_43 (by assumption) rfl ?_
        refine z_sipush 480 dX10_odds_46 (by decide) ?_
        refine s_iald dX10_odds_49 (by assumption) (by first | assumption | exact vp_in_nI (by omega) (by omega) | (unfold vp_in; decide)) ?_
        rw [show (480 : Int32).toNatClampNeg = 480 from rfl, gr.1]
        refine z_iload_n dX10_odds_50 rfl ?_
        refine s_callS1 l_Mo_184 (C_Mo_part (a0 := qct w k) (by omega) (by omega) (by omega)) dX10_odds_51 rfl rfl (Nat.le_of_ble_eq_true rfl) (rrm (by omega) (by decide)) ?_
        refine z_lreturn dX10_odds_54 rfl ⟨Nat.le_refl _, Nat.le_refl _⟩ ?_
        exact ⟨rfl, _, rfl, hA⟩
      · have hn0 : aN (wA w) = 0 := (nI_eq (b := 0) (by omega) (by decide)).mp c25
        rw [show lowA (qct w k) (aN (wA w)) r = -9223372036854775808 by unfold lowA; exact if_pos hn0] at hA
        refine z_ldc2 (-9223372036854775808) v_Mo_182 dX10_odds_28 ?_
        refine z_lreturn dX10_odds_31 rfl ⟨Nat.le_refl _, Nat.le_refl _⟩ ?_
        first
          | exact ⟨rfl, _, rfl, hA⟩
          | exact ⟨rfl, _, rfl, h0 (fun q => zoT q.1 c5)⟩
          | exact ⟨rfl, _, rfl, h0 (fun q => zoT q.2 c14)⟩
          | skip
theorem C_Mo_mean {p r s : Int32} (hM : tMo sh m) (hR : rMo S m w) (hW : wOK w) (h0 : ¬ (rg p (wq w) = true ∧ rg r 4 = true ∧ rg s 2 = true) → P (some (.long (-9223372036854775808))) S)
    (h1 : ∀ k c S', k < wq w → p = nI k → c < 4 → r = nI c → rg s 2 = true → frS S (fun b => b = m + 12) S' → P (some (.long (lowA (fb_sm (fun v => v * gct (qI w k).1 (aV (wA w)) (aN (wA w)) c v) 16) (qct w k) s))) S') : zR G m_Mo_mean 60 sh [.ref m, .int p, .int r, .int s] S P := by
  obtain ⟨m0, a1, a2, a3, a4, a5, a6, a7, a8, a9, a10, a11, a12, a13, a14, a15, a16, a22⟩ := id hM
  obtain ⟨k1, k2, k3, ⟨k4, kr⟩, ⟨kL, ktx⟩, kt⟩ := id hR
  obtain ⟨g0, gi, ⟨g2, g2q⟩, ⟨g3, g3x⟩, g4⟩ := id hW
  obtain ⟨⟨b1, b2, b3, b4, b5⟩, ⟨e1, e2, e3, e4, e5⟩, eV, eM, eMo, eS, eB⟩ := id g0
  have hv : ∀ j, j < aN (wA w) → ∀ c, c < 4 → aV (wA w) j c < 16 := fun j hj c hc => (eV j hj c hc).2
  refine s_meth 3 ⟨p_Mo, rfl, Nat.le_of_ble_eq_true rfl⟩ rfl (fun sz => ?_)
  have loop : ∀ S' (z : Nat → Nat) A B, A = fb_sm z 16 → B = fb_sm (fun v => v * z v) 16 → A ≤ 120 → B < 2 ^ 31 → P (some (.long (lowA B A s))) S' → (∀ i, i < 16 → za S' (m + 12) i = nI (z i)) → ∀ d i, 16 - i = d → i ≤ 16 → zW G m_Mo_mean (zRm 60 0 0) (zFm G (zP sh sz P) 0 0) 0 0 50 [some (.ref m), some (.int p), some (.int r), some (.int s), some (.int (nI (fb_sm z i))), some (.int (nI (fb_sm (fun v => v * z v) i))), some (.int (nI i))] [] (zhp sh S') sz := by
    intro S' z A B eA eB hA120 hB31 hA hz d
    induction d with
    | zero =>
      intro i g1 g2
      have hi : i = 16 := by omega
      subst hi
      rw [← eA, ← eB]
      refine z_iload dX10_mean_50 rfl ?_
      refine z_bipush 16 dX10_mean_52 (by decide) ?_
      refine z_icmp_ge 90 dX10_mean_54 (by decide) (fun c54 => ?_) (fun c54 => ?_)
      · refine z_iload dX10_mean_90 rfl ?_
        refine z_if_ne 101 dX10_mean_92 (by decide) (fun c92 => ?_) (fun c92 => ?_)
        · have hn0 : ¬ A = 0 := fun z => c92 (by rw [z]; rfl)
          refine z_iload dX10_mean_101 rfl ?_
          refine z_iload dX10_mean_103 rfl ?_
          refine z_iload_n dX10_mean_105 rfl ?_
          refine s_callS1 l_Mo_184 (C_Mo_part (a0 := B) (b0 := A) hB31 (by omega) (by omega)) dX10_mean_106 rfl rfl (Nat.le_of_ble_eq_true rfl) (rrm (by omega) (by decide)) ?_
          refine z_lreturn dX10_mean_109 rfl ⟨Nat.le_refl _, Nat.le_refl _⟩ ?_
          exact ⟨rfl, _, rfl, hA⟩
        · have hn0 : A = 0 := (nI_eq (b := 0) (by omega) (by decide)).mp c92
          rw [show lowA B A s = -9223372036854775808 by unfold lowA; exact if_pos hn0] at hA
          refine z_ldc2 (-9223372036854775808) v_Mo_182 dX10_mean_95 ?_
          refine z_goto 109 dX10_mean_98 (by decide) ?_
          refine z_lreturn dX10_mean_109 rfl ⟨Nat.le_refl _, Nat.le_refl _⟩ ?_
          exact ⟨rfl, _, rfl, hA⟩
      · exact absurd (nI_le (a := 16) (b := 16) (Nat.le_refl _) (by decide)) c54
    | succ d ih =>
      intro i g1 g2
      refine z_iload dX10_mean_50 rfl ?_
      refine z_bipush 16 dX10_mean_52 (by decide) ?_
      refine z_icmp_ge 90 dX10_mean_54 (by decide) (fun c54 => ?_) (fun c54 => ?_)
      · exact absurd c54 (nI_ge (b := 16) (by omega) (by decide))
      · refine z_iload dX10_mean_57 rfl ?_
        refine z_aload_n dX10_mean_59 rfl ?_
        refine s_getr f_Mo_45 dX10_mean_60 (by assumption) rfl ?_
        refine z_iload dX10_mean_63 rfl ?_
        refine s_iald dX10_mean_65 a12 (vp_in_nI (by omega) (by decide)) ?_
        rw [nI_clamp (by omega), hz i (by omega)]
        refine z_iadd dX10_mean_66 ?_
        rw [nI_add]
        refine z_istore (lv' := [_, _, _, _, _, _, _]) dX10_mean_67 (by decide) rfl ?_
        refine z_iload dX10_mean_69 rfl ?_
        refine z_iload dX10_mean_71 rfl ?_
        refine z_aload_n dX10_mean_73 rfl ?_
        refine s_getr f_Mo_45 dX10_mean_74 (by assumption) rfl ?_
        refine z_iload dX10_mean_77 rfl ?_
        refine s_iald dX10_mean_79 a12 (vp_in_nI (by omega) (by decide)) ?_
        rw [nI_clamp (by omega), hz i (by omega)]
        refine z_imul dX10_mean_80 ?_
        refine z_iadd dX10_mean_81 ?_
        rw [nI_mulN, nI_add]
        refine z_istore (lv' := [_, _, _, _, _, _, _]) dX10_mean_82 (by decide) rfl ?_
        refine z_iinc (lv' := [_, _, _, _, _, _, _]) 1 dX10_mean_84 rfl (by decide) rfl rfl ?_
        refine z_goto 50 dX10_mean_87 (by decide) ?_
        rw [nI_1]
        exact ih (i + 1) (by omega) (by omega)
  refine z_aload_n dX10_mean_0 rfl ?_
  refine z_iload_n dX10_mean_1 rfl ?_
  refine s_callV1 l_Mo_163 (C_Mo_isQuery hM k4 (by omega)) m0 dX10_mean_2 rfl rfl (Nat.le_of_ble_eq_true rfl) (rrm (by omega) (by decide)) ?_
  refine z_if_eq 26 dX10_mean_5 (by decide) (fun c5 => ?_) (fun c5 => ?_)
  · refine z_ldc2 (-9223372036854775808) v_Mo_182 dX10_mean_26 ?_
    refine z_lreturn dX10_mean_29 rfl ⟨Nat.le_refl _, Nat.le_refl _⟩ ?_
    first
      | exact ⟨rfl, _, rfl, h0 (fun q => zoT q.1 c5)⟩
      | exact ⟨rfl, _, rfl, h0 (fun q => zoT q.2.1 c14)⟩
      | exact ⟨rfl, _, rfl, h0 (fun q => zoT q.2.2 c23)⟩
      | skip
  · refine z_iload_n dX10_mean_8 rfl ?_
    refine z_iconst 0 dX10_mean_9 rfl ?_
    refine z_iconst 3 dX10_mean_10 rfl ?_
    refine s_callS1 l_Mo_63 (C_Mo_in0 (n := 4) (by decide) (by decide)) dX10_mean_11 rfl rfl (Nat.le_of_ble_eq_true rfl) (rrm (by omega) (by decide)) ?_
    refine z_if_eq 26 dX10_mean_14 (by decide) (fun c14 => ?_) (fun c14 => ?_)
    · refine z_ldc2 (-9223372036854775808) v_Mo_182 dX10_mean_26 ?_
      refine z_lreturn dX10_mean_29 rfl ⟨Nat.le_refl _, Nat.le_refl _⟩ ?_
      first
        | exact ⟨rfl, _, rfl, h0 (fun q => zoT q.1 c5)⟩
        | exact ⟨rfl, _, rfl, h0 (fun q => zoT q.2.1 c14)⟩
        | exact ⟨rfl, _, rfl, h0 (fun q => zoT q.2.2 c23)⟩
        | skip
    · refine z_iload_n dX10_mean_17 rfl ?_
      refine z_iconst 0 dX10_mean_18 rfl ?_
      refine z_iconst 1 dX10_mean_19 rfl ?_
      refine s_callS1 l_Mo_63 (C_Mo_in0 (n := 2) (by decide) (by decide)) dX10_mean_20 rfl rfl (Nat.le_of_ble_eq_true rfl) (rrm (by omega) (by decide)) ?_
      refine z_if_ne 30 dX10_mean_23 (by decide) (fun c23 => ?_) (fun c23 => ?_)
      · obtain ⟨k, hk, rfl⟩ := rg_t (by omega) (zo_ne0.mp c5)
        obtain ⟨c, hc, rfl⟩ := rg_t (by decide) (zo_ne0.mp c14)
        have hQ := hR.mq hW hk
        have hN0 := (g2q k hk).1
        have hN50 := (g2q k hk).2.1
        have hct : qct w k ≤ 120 := Nat.le_trans (fb_ct_le _ _) b1
        have hzl : ∀ i, gct (qI w k).1 (aV (wA w)) (aN (wA w)) c i ≤ 120 := fun i => Nat.le_trans (gct_le _ _ _ _ _) b1
        have hsm := gct_sum (qI w k).1 (aV (wA w)) c (aN (wA w)) (fun j hj => hv j hj c hc)
        have hsb : fb_sm (fun v => v * gct (qI w k).1 (aV (wA w)) (aN (wA w)) c v) 16 ≤ 16 * (16 * 120) := fb_sm_bound (fun v hv => Nat.mul_le_mul (by omega) (hzl v))
        refine z_aload_n dX10_mean_30 rfl ?_
        refine z_aload_n dX10_mean_31 rfl ?_
        refine s_getr f_Mo_21 dX10_mean_32 (by assumption) rfl ?_
        refine z_iload_n dX10_mean_35 rfl ?_
        refine s_iald dX10_mean_36 a4 (vp_in_nI (by omega) (by decide)) ?_
        rw [nI_clamp (by omega), (kr k hk).1]
        refine z_iload_n dX10_mean_37 rfl ?_
        refine n_callV0 l_Mo_172 (C_Mo_grouped (i := wN w k - 1) hM hQ (by omega) hc) m0 dX10_mean_38 rfl rfl (Nat.le_of_ble_eq_true rfl) (rrm (by omega) (by decide)) (fun S38 q38 => ?_)
        refine z_iconst 0 dX10_mean_41 rfl ?_
        refine z_istore (lv' := [_, _, _, _, _, _, _]) dX10_mean_42 (by decide) rfl ?_
        refine z_iconst 0 dX10_mean_44 rfl ?_
        refine z_istore (lv' := [_, _, _, _, _, _, _]) dX10_mean_45 (by decide) rfl ?_
        refine z_iconst 0 dX10_mean_47 rfl ?_
        refine z_istore (lv' := [_, _, _, _, _, _, _]) dX10_mean_48 (by decide) rfl ?_
        exact loop S38 (gct (qI w k).1 (aV (wA w)) (aN (wA w)) c) (qct w k) _ hsm.symm rfl hct (by omega) (h1 k c S38 hk rfl hc rfl (zo_ne0.mp c23) q38.1) q38.2 16 0 rfl (by decide)
      · refine z_ldc2 (-9223372036854775808) v_Mo_182 dX10_mean_26 ?_
        refine z_lreturn dX10_mean_29 rfl ⟨Nat.le_refl _, Nat.le_refl _⟩ ?_
        first
          | exact ⟨rfl, _, rfl, h0 (fun q => zoT q.1 c5)⟩
          | exact ⟨rfl, _, rfl, h0 (fun q => zoT q.2.1 c14)⟩
          | exact ⟨rfl, _, rfl, h0 (fun q => zoT q.2.2 c23)⟩
          | skip
theorem cmS_o {p q r s : Int32} {k : Nat} (hk : 4 * n + 4 ≤ k) (h : k ≠ 480) : za (cmS S m n p q r s) (m + 1) k = za S (m + 1) k := by
  unfold cmS
  rw [za_san (by omega), za_san (by omega), za_san (by omega), za_san (by omega), za_san (by omega)]
theorem cmS_rows (hg : gRows S m n v) (hn : n < 120) (y : Nat → Nat) : gRows (cmS S m n (nI (y 0)) (nI (y 1)) (nI (y 2)) (nI (y 3))) m (n + 1) (vPush v n y) := by
  refine ⟨za_sa, fun j hj c hc => ?_⟩
  unfold cmS vPush
  rw [za_san (by omega)]
  by_cases e : j = n
  · subst e
    rw [if_pos rfl]
    rcases (by omega : c = 0 ∨ c = 1 ∨ c = 2 ∨ c = 3) with rfl | rfl | rfl | rfl
    · rw [za_san (by omega), za_san (by omega), za_san (by omega)]; exact za_sa
    · rw [za_san (by omega), za_san (by omega)]; exact za_sa
    · rw [za_san (by omega)]; exact za_sa
    · exact za_sa
  · rw [if_neg e, za_san (by omega), za_san (by omega), za_san (by omega), za_san (by omega)]
    exact hg.2 j (by omega) c hc
def gMk (S : zSt) (m : Nat) (A : Ab) : Prop := za S (m + 1) 481 = nI (aM A) ∧ ∀ i, i < aM A → za S (m + 1) (482 + i) = nI (aT A i)
theorem C_Mo_does {x y : Int32} {A : Ab} (hM : tMo sh m) (hg : gRows S m n v) (hok : okRV (n, v)) (hk : gMk S m A) (hA : aM A ≤ 10 ∧ ∀ i, i < aM A → aT A i ≤ 120) : zN G m_Mo_does 3 sh [.ref m, .int x, .int y] S none (fun S' => frS S (fun b => b = m + 1) S' ∧ gRows S' m (pStep A x y (n, v)).1 (pStep A x y (n, v)).2 ∧ gMk S' m A) := by
  obtain ⟨m0, a1, a2, a3, a4, a5, a6, a7, a8, a9, a10, a11, a12, a13, a14, a15, a16, a22⟩ := id hM
  have hn : n ≤ 120 := hok.1
  have hM10 := hA.1
  have e480 : (480 : Int32).toNatClampNeg = 480 := rfl
  refine s_meth 0 ⟨p_Mo, rfl, Nat.le_of_ble_eq_true rfl⟩ rfl (fun sz => ?_)
  have fin : ∀ S', frS S (fun b => b = m + 1) S' → gRows S' m (pStep A x y (n, v)).1 (pStep A x y (n, v)).2 → gMk S' m A → zW G m_Mo_does (zRm 3 0 0) (zFm G (zP sh sz (fun r' S' => r' = none ∧ frS S (fun b => b = m + 1) S' ∧ gRows S' m (pStep A x y (n, v)).1 (pStep A x y (n, v)).2 ∧ gMk S' m A)) 0 0) 0 0 163 [some (.ref m), some (.int x), some (.int y)] [] (zhp sh S') sz := by
    intro S' h1 h2 h3
    refine z_return dX10_does_163 rfl ⟨Nat.le_refl _, Nat.le_refl _⟩ ?_
    exact ⟨rfl, _, rfl, rfl, h1, h2, h3⟩
  have cut : ∀ t, t ≤ n → gRows (zsa S (m + 1) 480 (nI t)) m t v ∧ gMk (zsa S (m + 1) 480 (nI t)) m A := fun t ht => by
    refine ⟨⟨za_sa, fun j hj c hc => (za_san (by omega)).trans (hg.2 j (by omega) c hc)⟩, (za_san (by omega)).trans hk.1, fun i hi => (za_san (by omega)).trans (hk.2 i hi)⟩
  refine z_iload_n dX10_does_0 rfl ?_
  refine z_if_ne 34 dX10_does_1 (by decide) (fun c1 => ?_) (fun c1 => ?_)
  · refine z_iload_n dX10_does_34 rfl ?_
    refine z_iconst 1 dX10_does_35 rfl ?_
    refine z_icmp_ne 106 dX10_does_36 (by decide) (fun c36 => ?_) (fun c36 => ?_)
    · have e2 : pStep A x y (n, v) = (if 0 ≤ y ∧ y < nI (aM A) then (min (aT A y.toNatClampNeg) n, v) else (n, v)) := by unfold pStep; rw [if_neg c1, if_neg c36]
      refine z_iload_n dX10_does_106 rfl ?_
      refine z_iconst 0 dX10_does_107 rfl ?_
      refine z_aload_n dX10_does_108 rfl ?_
      refine s_getr f_Mo_11 dX10_does_109 (by assumption) rfl ?_
      refine z_sipush 481 dX10_does_112 (by decide) ?_
      refine s_iald dX10_does_115 (by assumption) (by first | assumption | exact vp_in_nI (by omega) (by omega) | (unfold vp_in; decide)) ?_
      rw [show (481 : Int32).toNatClampNeg = 481 from rfl, hk.1]
      refine z_iconst 1 dX10_does_116 rfl ?_
      refine z_isub dX10_does_117 ?_
      refine s_callS1 l_Mo_63 (C_Mo_in0 (n := aM A) rfl (by omega)) dX10_does_118 rfl rfl (Nat.le_of_ble_eq_true rfl) ⟨⟨by decide, by decide⟩, by decide, by decide⟩ ?_
      refine z_if_eq 163 dX10_does_121 (by decide) (fun c121 => ?_) (fun c121 => ?_)
      · rw [if_neg (fun z => zoT (decide_eq_true z) c121)] at e2
        first
          | (rw [show nI n - 0 = nI 0 by rw [hn0]; decide]
             exact fin _ (frS.seta rfl) (by rw [e0]; show gRows _ m (n - 1) v; rw [show n - 1 = 0 by omega]; exact (cut 0 (Nat.zero_le _)).1) (cut 0 (Nat.zero_le _)).2)
          | (rw [show nI n - 1 = nI t by rw [ht, nI_pred]]
             exact fin _ (frS.seta rfl) (by rw [e0]; show gRows _ m (n - 1) v; rw [show n - 1 = t by omega]; exact (cut t (by omega)).1) (cut t (by omega)).2)
          | exact fin S frS.rf (by rw [e1]; exact hg) hk
          | exact fin _ (cmS_fr rfl) (by rw [e1]; exact cmS_rows hg h120 (v z)) ⟨(cmS_o (by omega) (by omega)).trans hk.1, fun i hi => (cmS_o (by omega) (by omega)).trans (hk.2 i hi)⟩
          | exact fin _ (frS.seta rfl) (by rw [e2, Nat.min_eq_left (by omega)]; exact (cut _ (by omega)).1) (cut _ (by omega)).2
          | exact fin S frS.rf (by rw [e2, Nat.min_eq_right (by omega)]; exact hg) hk
          | exact fin S frS.rf (by rw [e2]; exact hg) hk
          | skip
      · have hy := of_decide_eq_true (zo_ne0.mp c121)
        rw [if_pos hy] at e2
        obtain ⟨g1, g2⟩ := clampLt (by omega) hy
        generalize hz : y.toNatClampNeg = z at g1 g2 e2
        subst g2
        have hT120 := hA.2 z g1
        refine z_aload_n dX10_does_124 rfl ?_
        refine s_getr f_Mo_11 dX10_does_125 (by assumption) rfl ?_
        refine z_sipush 482 dX10_does_128 (by decide) ?_
        refine z_iload_n dX10_does_131 rfl ?_
        refine z_iadd dX10_does_132 ?_
        rw [show (482 : Int32) = nI 482 from rfl, nI_add]
        refine s_iald dX10_does_133 a1 (vp_in_nI (by omega) (by decide)) ?_
        rw [nI_clamp (by omega), hk.2 z g1]
        refine z_aload_n dX10_does_134 rfl ?_
        refine s_getr f_Mo_11 dX10_does_135 (by assumption) rfl ?_
        refine z_sipush 480 dX10_does_138 (by decide) ?_
        refine s_iald dX10_does_141 (by assumption) (by first | assumption | exact vp_in_nI (by omega) (by omega) | (unfold vp_in; decide)) ?_
        rw [e480, hg.1]
        refine z_icmp_ge 163 dX10_does_142 (by decide) (fun c142 => ?_) (fun c142 => ?_)
        · have hT := i_le (by omega) (by omega) c142
          first
            | (rw [show nI n - 0 = nI 0 by rw [hn0]; decide]
               exact fin _ (frS.seta rfl) (by rw [e0]; show gRows _ m (n - 1) v; rw [show n - 1 = 0 by omega]; exact (cut 0 (Nat.zero_le _)).1) (cut 0 (Nat.zero_le _)).2)
            | (rw [show nI n - 1 = nI t by rw [ht, nI_pred]]
               exact fin _ (frS.seta rfl) (by rw [e0]; show gRows _ m (n - 1) v; rw [show n - 1 = t by omega]; exact (cut t (by omega)).1) (cut t (by omega)).2)
            | exact fin S frS.rf (by rw [e1]; exact hg) hk
            | exact fin _ (cmS_fr rfl) (by rw [e1]; exact cmS_rows hg h120 (v z)) ⟨(cmS_o (by omega) (by omega)).trans hk.1, fun i hi => (cmS_o (by omega) (by omega)).trans (hk.2 i hi)⟩
            | exact fin _ (frS.seta rfl) (by rw [e2, Nat.min_eq_left (by omega)]; exact (cut _ (by omega)).1) (cut _ (by omega)).2
            | exact fin S frS.rf (by rw [e2, Nat.min_eq_right (by omega)]; exact hg) hk
            | exact fin S frS.rf (by rw [e2]; exact hg) hk
            | skip
        · have hT := i_nle (by omega) c142
          refine z_aload_n dX10_does_145 rfl ?_
          refine s_getr f_Mo_11 dX10_does_146 (by assumption) rfl ?_
          refine z_sipush 480 dX10_does_149 (by decide) ?_
          refine z_aload_n dX10_does_152 rfl ?_
          refine s_getr f_Mo_11 dX10_does_153 (by assumption) rfl ?_
          refine z_sipush 482 dX10_does_156 (by decide) ?_
          refine z_iload_n dX10_does_159 rfl ?_
          refine z_iadd dX10_does_160 ?_
          rw [show (482 : Int32) = nI 482 from rfl, nI_add]
          refine s_iald dX10_does_161 a1 (vp_in_nI (by omega) (by decide)) ?_
          rw [nI_clamp (by omega), hk.2 z g1]
          refine s_iast dX10_does_162 (by assumption) (by first | assumption | exact vp_in_nI (by omega) (by omega) | (unfold vp_in; decide)) ?_
          first
            | (rw [show nI n - 0 = nI 0 by rw [hn0]; decide]
               exact fin _ (frS.seta rfl) (by rw [e0]; show gRows _ m (n - 1) v; rw [show n - 1 = 0 by omega]; exact (cut 0 (Nat.zero_le _)).1) (cut 0 (Nat.zero_le _)).2)
            | (rw [show nI n - 1 = nI t by rw [ht, nI_pred]]
               exact fin _ (frS.seta rfl) (by rw [e0]; show gRows _ m (n - 1) v; rw [show n - 1 = t by omega]; exact (cut t (by omega)).1) (cut t (by omega)).2)
            | exact fin S frS.rf (by rw [e1]; exact hg) hk
            | exact fin _ (cmS_fr rfl) (by rw [e1]; exact cmS_rows hg h120 (v z)) ⟨(cmS_o (by omega) (by omega)).trans hk.1, fun i hi => (cmS_o (by omega) (by omega)).trans (hk.2 i hi)⟩
            | exact fin _ (frS.seta rfl) (by rw [e2, Nat.min_eq_left (by omega)]; exact (cut _ (by omega)).1) (cut _ (by omega)).2
            | exact fin S frS.rf (by rw [e2, Nat.min_eq_right (by omega)]; exact hg) hk
            | exact fin S frS.rf (by rw [e2]; exact hg) hk
            | skip
    · have e1 : pStep A x y (n, v) = (if (0 ≤ y ∧ y < nI n) ∧ n < 120 then (n + 1, vPush v n (v y.toNatClampNeg)) else (n, v)) := by unfold pStep; rw [if_neg c1, if_pos c36]
      refine z_aload_n dX10_does_39 rfl ?_
      refine z_iload_n dX10_does_40 rfl ?_
      refine s_callV1 l_Mo_71 (C_Mo_isRow hM hg.1 (by omega)) m0 dX10_does_41 rfl rfl (Nat.le_of_ble_eq_true rfl) ⟨⟨by decide, by decide⟩, by decide, by decide⟩ ?_
      refine z_if_eq 163 dX10_does_44 (by decide) (fun c44 => ?_) (fun c44 => ?_)
      · rw [if_neg (fun z => zoT (decide_eq_true z.1) c44)] at e1
        first
          | (rw [show nI n - 0 = nI 0 by rw [hn0]; decide]
             exact fin _ (frS.seta rfl) (by rw [e0]; show gRows _ m (n - 1) v; rw [show n - 1 = 0 by omega]; exact (cut 0 (Nat.zero_le _)).1) (cut 0 (Nat.zero_le _)).2)
          | (rw [show nI n - 1 = nI t by rw [ht, nI_pred]]
             exact fin _ (frS.seta rfl) (by rw [e0]; show gRows _ m (n - 1) v; rw [show n - 1 = t by omega]; exact (cut t (by omega)).1) (cut t (by omega)).2)
          | exact fin S frS.rf (by rw [e1]; exact hg) hk
          | exact fin _ (cmS_fr rfl) (by rw [e1]; exact cmS_rows hg h120 (v z)) ⟨(cmS_o (by omega) (by omega)).trans hk.1, fun i hi => (cmS_o (by omega) (by omega)).trans (hk.2 i hi)⟩
          | exact fin _ (frS.seta rfl) (by rw [e2, Nat.min_eq_left (by omega)]; exact (cut _ (by omega)).1) (cut _ (by omega)).2
          | exact fin S frS.rf (by rw [e2, Nat.min_eq_right (by omega)]; exact hg) hk
          | exact fin S frS.rf (by rw [e2]; exact hg) hk
          | skip
      · have hy := of_decide_eq_true (zo_ne0.mp c44)
        refine z_aload_n dX10_does_47 rfl ?_
        refine s_getr f_Mo_11 dX10_does_48 (by assumption) rfl ?_
        refine z_sipush 480 dX10_does_51 (by decide) ?_
        refine s_iald dX10_does_54 (by assumption) (by first | assumption | exact vp_in_nI (by omega) (by omega) | (unfold vp_in; decide)) ?_
        refine z_bipush 120 dX10_does_55 (by decide) ?_
        rw [e480, hg.1]
        refine z_icmp_ge 163 dX10_does_57 (by decide) (fun c57 => ?_) (fun c57 => ?_)
        · have h120 := i_le (a := 120) (by decide) (by omega) c57
          rw [if_neg (fun z => by have := z.2; omega)] at e1
          first
            | (rw [show nI n - 0 = nI 0 by rw [hn0]; decide]
               exact fin _ (frS.seta rfl) (by rw [e0]; show gRows _ m (n - 1) v; rw [show n - 1 = 0 by omega]; exact (cut 0 (Nat.zero_le _)).1) (cut 0 (Nat.zero_le _)).2)
            | (rw [show nI n - 1 = nI t by rw [ht, nI_pred]]
               exact fin _ (frS.seta rfl) (by rw [e0]; show gRows _ m (n - 1) v; rw [show n - 1 = t by omega]; exact (cut t (by omega)).1) (cut t (by omega)).2)
            | exact fin S frS.rf (by rw [e1]; exact hg) hk
            | exact fin _ (cmS_fr rfl) (by rw [e1]; exact cmS_rows hg h120 (v z)) ⟨(cmS_o (by omega) (by omega)).trans hk.1, fun i hi => (cmS_o (by omega) (by omega)).trans (hk.2 i hi)⟩
            | exact fin _ (frS.seta rfl) (by rw [e2, Nat.min_eq_left (by omega)]; exact (cut _ (by omega)).1) (cut _ (by omega)).2
            | exact fin S frS.rf (by rw [e2, Nat.min_eq_right (by omega)]; exact hg) hk
            | exact fin S frS.rf (by rw [e2]; exact hg) hk
            | skip
        · have h120 := i_nle (a := 120) (by omega) c57
          rw [if_pos ⟨hy, h120⟩] at e1
          obtain ⟨g1, g2⟩ := clampLt (by omega) hy
          generalize hz : y.toNatClampNeg = z at g1 g2 e1
          subst g2
          have hv4 := hok.2 z g1
          refine z_aload_n dX10_does_60 rfl ?_
          refine z_aload_n dX10_does_61 rfl ?_
          refine s_getr f_Mo_11 dX10_does_62 (by assumption) rfl ?_
          refine z_iconst 4 dX10_does_65 rfl ?_
          refine z_iload_n dX10_does_66 rfl ?_
          refine z_imul dX10_does_67 ?_
          rw [show (4 : Int32) = nI 4 from rfl, nI_mulN]
          refine s_iald dX10_does_68 a1 (vp_in_nI (by omega) (by decide)) ?_
          rw [nI_clamp (by omega), show za S (m + 1) (4 * z) = nI (v z 0) from hg.2 z g1 0 (by decide)]
          refine z_aload_n dX10_does_69 rfl ?_
          refine s_getr f_Mo_11 dX10_does_70 (by assumption) rfl ?_
          refine z_iconst 4 dX10_does_73 rfl ?_
          refine z_iload_n dX10_does_74 rfl ?_
          refine z_imul dX10_does_75 ?_
          rw [show (4 : Int32) = nI 4 from rfl, nI_mulN]
          refine z_iconst 1 dX10_does_76 rfl ?_
          refine z_iadd dX10_does_77 ?_
          rw [nI_1]
          refine s_iald dX10_does_78 a1 (vp_in_nI (by omega) (by decide)) ?_
          rw [nI_clamp (by omega), hg.2 z g1 1 (by decide)]
          refine z_aload_n dX10_does_79 rfl ?_
          refine s_getr f_Mo_11 dX10_does_80 (by assumption) rfl ?_
          refine z_iconst 4 dX10_does_83 rfl ?_
          refine z_iload_n dX10_does_84 rfl ?_
          refine z_imul dX10_does_85 ?_
          rw [show (4 : Int32) = nI 4 from rfl, nI_mulN]
          refine z_iconst 2 dX10_does_86 rfl ?_
          refine z_iadd dX10_does_87 ?_
          rw [show (2 : Int32) = nI 2 from rfl, nI_add]
          refine s_iald dX10_does_88 a1 (vp_in_nI (by omega) (by decide)) ?_
          rw [nI_clamp (by omega), hg.2 z g1 2 (by decide)]
          refine z_aload_n dX10_does_89 rfl ?_
          refine s_getr f_Mo_11 dX10_does_90 (by assumption) rfl ?_
          refine z_iconst 4 dX10_does_93 rfl ?_
          refine z_iload_n dX10_does_94 rfl ?_
          refine z_imul dX10_does_95 ?_
          rw [show (4 : Int32) = nI 4 from rfl, nI_mulN]
          refine z_iconst 3 dX10_does_96 rfl ?_
          refine z_iadd dX10_does_97 ?_
          rw [show (3 : Int32) = nI 3 from rfl, nI_add]
          refine s_iald dX10_does_98 a1 (vp_in_nI (by omega) (by decide)) ?_
          rw [nI_clamp (by omega), hg.2 z g1 3 (by decide)]
          refine s_callV1 l_Mo_67 (C_Mo_comes hM hg.1 h120) m0 dX10_does_99 rfl rfl (Nat.le_of_ble_eq_true rfl) ⟨⟨by decide, by decide⟩, by decide, by decide⟩ ?_
          refine z_pop dX10_does_102 rfl ?_
          refine z_goto 163 dX10_does_103 (by decide) ?_
          first
            | (rw [show nI n - 0 = nI 0 by rw [hn0]; decide]
               exact fin _ (frS.seta rfl) (by rw [e0]; show gRows _ m (n - 1) v; rw [show n - 1 = 0 by omega]; exact (cut 0 (Nat.zero_le _)).1) (cut 0 (Nat.zero_le _)).2)
            | (rw [show nI n - 1 = nI t by rw [ht, nI_pred]]
               exact fin _ (frS.seta rfl) (by rw [e0]; show gRows _ m (n - 1) v; rw [show n - 1 = t by omega]; exact (cut t (by omega)).1) (cut t (by omega)).2)
            | exact fin S frS.rf (by rw [e1]; exact hg) hk
            | exact fin _ (cmS_fr rfl) (by rw [e1]; exact cmS_rows hg h120 (v z)) ⟨(cmS_o (by omega) (by omega)).trans hk.1, fun i hi => (cmS_o (by omega) (by omega)).trans (hk.2 i hi)⟩
            | exact fin _ (frS.seta rfl) (by rw [e2, Nat.min_eq_left (by omega)]; exact (cut _ (by omega)).1) (cut _ (by omega)).2
            | exact fin S frS.rf (by rw [e2, Nat.min_eq_right (by omega)]; exact hg) hk
            | exact fin S frS.rf (by rw [e2]; exact hg) hk
            | skip
  · have e0 : pStep A x y (n, v) = (n - 1, v) := by unfold pStep; rw [if_pos c1]
    refine z_aload_n dX10_does_4 rfl ?_
    refine s_getr f_Mo_11 dX10_does_5 (by assumption) rfl ?_
    refine z_sipush 480 dX10_does_8 (by decide) ?_
    refine z_dup2 dX10_does_11 rfl rfl ?_
    refine s_iald dX10_does_12 (by assumption) (by first | assumption | exact vp_in_nI (by omega) (by omega) | (unfold vp_in; decide)) ?_
    refine z_aload_n dX10_does_13 rfl ?_
    refine s_getr f_Mo_11 dX10_does_14 (by assumption) rfl ?_
    refine z_sipush 480 dX10_does_17 (by decide) ?_
    refine s_iald dX10_does_20 (by assumption) (by first | assumption | exact vp_in_nI (by omega) (by omega) | (unfold vp_in; decide)) ?_
    rw [e480, hg.1]
    refine z_if_le 28 dX10_does_21 (by decide) (fun c21 => ?_) (fun c21 => ?_)
    · have hn0 : n = 0 := (n0I (by omega)).mp c21
      refine z_iconst 0 dX10_does_28 rfl ?_
      refine z_isub dX10_does_29 ?_
      refine s_iast dX10_does_30 (by assumption) (by first | assumption | exact vp_in_nI (by omega) (by omega) | (unfold vp_in; decide)) ?_
      refine z_goto 163 dX10_does_31 (by decide) ?_
      first
        | (rw [show nI n - 0 = nI 0 by rw [hn0]; decide]
           exact fin _ (frS.seta rfl) (by rw [e0]; show gRows _ m (n - 1) v; rw [show n - 1 = 0 by omega]; exact (cut 0 (Nat.zero_le _)).1) (cut 0 (Nat.zero_le _)).2)
        | (rw [show nI n - 1 = nI t by rw [ht, nI_pred]]
           exact fin _ (frS.seta rfl) (by rw [e0]; show gRows _ m (n - 1) v; rw [show n - 1 = t by omega]; exact (cut t (by omega)).1) (cut t (by omega)).2)
        | exact fin S frS.rf (by rw [e1]; exact hg) hk
        | exact fin _ (cmS_fr rfl) (by rw [e1]; exact cmS_rows hg h120 (v z)) ⟨(cmS_o (by omega) (by omega)).trans hk.1, fun i hi => (cmS_o (by omega) (by omega)).trans (hk.2 i hi)⟩
        | exact fin _ (frS.seta rfl) (by rw [e2, Nat.min_eq_left (by omega)]; exact (cut _ (by omega)).1) (cut _ (by omega)).2
        | exact fin S frS.rf (by rw [e2, Nat.min_eq_right (by omega)]; exact hg) hk
        | exact fin S frS.rf (by rw [e2]; exact hg) hk
        | skip
    · have hn0 : ¬ n = 0 := fun z => c21 ((n0I (by omega)).mpr z)
      obtain ⟨t, ht⟩ : ∃ t, n = t + 1 := ⟨n - 1, by omega⟩
      refine z_iconst 1 dX10_does_24 rfl ?_
      refine z_goto 29 dX10_does_25 (by decide) ?_
      refine z_isub dX10_does_29 ?_
      refine s_iast dX10_does_30 (by assumption) (by first | assumption | exact vp_in_nI (by omega) (by omega) | (unfold vp_in; decide)) ?_
      refine z_goto 163 dX10_does_31 (by decide) ?_
      first
        | (rw [show nI n - 0 = nI 0 by rw [hn0]; decide]
           exact fin _ (frS.seta rfl) (by rw [e0]; show gRows _ m (n - 1) v; rw [show n - 1 = 0 by omega]; exact (cut 0 (Nat.zero_le _)).1) (cut 0 (Nat.zero_le _)).2)
        | (rw [show nI n - 1 = nI t by rw [ht, nI_pred]]
           exact fin _ (frS.seta rfl) (by rw [e0]; show gRows _ m (n - 1) v; rw [show n - 1 = t by omega]; exact (cut t (by omega)).1) (cut t (by omega)).2)
        | exact fin S frS.rf (by rw [e1]; exact hg) hk
        | exact fin _ (cmS_fr rfl) (by rw [e1]; exact cmS_rows hg h120 (v z)) ⟨(cmS_o (by omega) (by omega)).trans hk.1, fun i hi => (cmS_o (by omega) (by omega)).trans (hk.2 i hi)⟩
        | exact fin _ (frS.seta rfl) (by rw [e2, Nat.min_eq_left (by omega)]; exact (cut _ (by omega)).1) (cut _ (by omega)).2
        | exact fin S frS.rf (by rw [e2, Nat.min_eq_right (by omega)]; exact hg) hk
        | exact fin S frS.rf (by rw [e2]; exact hg) hk
        | skip
end MOH

