/-! ===== the model: bounds, tapes ===== -/
section MOD
variable {G : zG} {sh : Nat → Option zSh} {S : zSt} {m n c k j a b : Nat} {w : Wd} {v : Nat → Nat → Nat} {P : Option Value → zSt → Prop}
theorem C_Mo_isSeen {b : Nat} (hM : tMo sh m) (hR : rMo S m w) (hW : wOK w) (hc : c < 4) (hb : b < 2 ^ 31) : zD G m_Mo_isSeen 3 sh [.ref m, .int (nI c), .int (nI b)] S (some (.int (zo (allB (sbB (wA w) (wg w) c b) (aS (wA w)))))) S := by
  obtain ⟨m0, a1, a2, a3, a4, a5, a6, a7, a8, a9, a10, a11, a12, a13, a14, a15, a16, a22⟩ := id hM
  obtain ⟨k1, k2, k3, ⟨k4, kr⟩, ⟨kL, ktx⟩, kt⟩ := id hR
  obtain ⟨g0, gi, ⟨g2, g2q⟩, ⟨g3, g3x⟩, g4⟩ := id hW
  obtain ⟨⟨b1, b2, b3, b4, b5⟩, ⟨e1, e2, e3, e4, e5⟩, eV, eM, eMo, eS, eB⟩ := id g0
  have hv : ∀ j, j < aN (wA w) → ∀ c, c < 4 → aV (wA w) j c < 16 := fun j hj c hc => (eV j hj c hc).2
  have gr := hR.gr hW
  have gs := (k1 492 (by decide)).trans e3
  refine s_methD 2 ⟨p_Mo, rfl, Nat.le_of_ble_eq_true rfl⟩ rfl (fun sz => ?_)
  have loop : ∀ d i z, aS (wA w) - i = d → i ≤ aS (wA w) → (∀ k, k < i → sbB (wA w) (wg w) c b k = true) → zW G m_Mo_isSeen (zRm 3 0 0) (zFm G (zQe (some (.int (zo (allB (sbB (wA w) (wg w) c b) (aS (wA w)))))) (zhp sh S) sz) 0 0) 0 0 2 [some (.ref m), some (.int (nI c)), some (.int (nI b)), some (.int (nI i)), z] [] (zhp sh S) sz := by
    intro d
    induction d with
    | zero =>
      intro i z h1 h2 h3
      have hi : i = aS (wA w) := by omega
      subst hi
      refine z_iload_n dX10_isSeen_2 rfl ?_
      refine z_aload_n dX10_isSeen_3 rfl ?_
      refine s_getr f_Mo_11 dX10_isSeen_4 (by assumption) rfl ?_
      refine z_sipush 492 dX10_isSeen_7 (by decide) ?_
      refine s_iald dX10_isSeen_10 (by assumption) (by first | assumption | exact vp_in_nI (by omega) (by omega) | (unfold vp_in; decide)) ?_
      rw [show (492 : Int32).toNatClampNeg = 492 from rfl, gs]
      refine z_icmp_ge 91 dX10_isSeen_11 (by decide) (fun c11 => ?_) (fun c11 => ?_)
      · refine z_iconst 1 dX10_isSeen_91 rfl ?_
        refine z_ireturn dX10_isSeen_92 rfl rfl ⟨Nat.le_refl _, Nat.le_refl _⟩ ?_
        rw [allB_t h3]
        exact ⟨rfl, rfl, rfl⟩
      · exact absurd (nI_le (Nat.le_refl _) (by omega)) c11
    | succ d ih =>
      intro i z h1 h2 h3
      have x1 := k1 (493 + 2 * i) (by omega)
      have x2 := k1 (493 + 2 * i + 1) (by omega)
      have hy := eS i (by omega)
      refine z_iload_n dX10_isSeen_2 rfl ?_
      refine z_aload_n dX10_isSeen_3 rfl ?_
      refine s_getr f_Mo_11 dX10_isSeen_4 (by assumption) rfl ?_
      refine z_sipush 492 dX10_isSeen_7 (by decide) ?_
      refine s_iald dX10_isSeen_10 (by assumption) (by first | assumption | exact vp_in_nI (by omega) (by omega) | (unfold vp_in; decide)) ?_
      rw [show (492 : Int32).toNatClampNeg = 492 from rfl, gs]
      refine z_icmp_ge 91 dX10_isSeen_11 (by decide) (fun c11 => ?_) (fun c11 => ?_)
      · exact absurd c11 (nI_ge (by omega) (by omega))
      · refine z_aload_n dX10_isSeen_14 rfl ?_
        refine s_getr f_Mo_11 dX10_isSeen_15 (by assumption) rfl ?_
        refine z_sipush 493 dX10_isSeen_18 (by decide) ?_
        refine z_iconst 2 dX10_isSeen_21 rfl ?_
        refine z_iload_n dX10_isSeen_22 rfl ?_
        refine z_imul dX10_isSeen_23 ?_
        refine z_iadd dX10_isSeen_24 ?_
        rw [nI21, show (493 : Int32) = nI 493 from rfl, nI_add]
        refine s_iald dX10_isSeen_25 a1 (vp_in_nI (by omega) (by decide)) ?_
        rw [nI_clamp (by omega), x1]
        refine z_istore (lv' := [_, _, _, _, _]) dX10_isSeen_26 (by decide) rfl ?_
        refine z_aload_n dX10_isSeen_28 rfl ?_
        refine z_iload dX10_isSeen_29 rfl ?_
        refine s_callV1 l_Mo_71 (C_Mo_isRow hM gr.1 (by omega)) m0 dX10_isSeen_31 rfl rfl (Nat.le_of_ble_eq_true rfl) ⟨⟨by decide, by decide⟩, by decide, by decide⟩ ?_
        refine z_if_eq 83 dX10_isSeen_34 (by decide) (fun c34 => ?_) (fun c34 => ?_)
        · have hf := zo_eq0.mp c34
          rw [allB_f (i := i) (by omega) (show sbB (wA w) (wg w) c b i = false by unfold sbB; rw [show decide (0 ≤ wg w (493 + 2 * i) ∧ wg w (493 + 2 * i) < nI (aN (wA w))) = false from hf]; rfl)]
          refine z_iconst 0 dX10_isSeen_83 rfl ?_
          refine z_ireturn dX10_isSeen_84 rfl rfl ⟨Nat.le_refl _, Nat.le_refl _⟩ ?_
          first
            | exact ⟨rfl, rfl, rfl⟩
            | (rw [allB_f (i := i) (by omega) hs]; exact ⟨rfl, rfl, rfl⟩)
            | skip
        · have ht := zo_ne0.mp c34
          obtain ⟨g1, g2⟩ := clampLt (by omega) (of_decide_eq_true ht)
          have hs : sbB (wA w) (wg w) c b i = (decide (aV (wA w) (wg w (493 + 2 * i)).toNatClampNeg c < b) == decide (wg w (493 + 2 * i + 1) ≠ 0)) := by unfold sbB; rw [show decide (0 ≤ wg w (493 + 2 * i) ∧ wg w (493 + 2 * i) < nI (aN (wA w))) = true from ht]; rfl
          generalize hx : (wg w (493 + 2 * i)).toNatClampNeg = x at g1 g2 hs
          rw [g2]
          refine z_aload_n dX10_isSeen_37 rfl ?_
          refine s_getr f_Mo_11 dX10_isSeen_38 (by assumption) rfl ?_
          refine z_iconst 4 dX10_isSeen_41 rfl ?_
          refine z_iload dX10_isSeen_42 rfl ?_
          refine z_imul dX10_isSeen_44 ?_
          refine z_iload_n dX10_isSeen_45 rfl ?_
          refine z_iadd dX10_isSeen_46 ?_
          rw [nI4]
          refine s_iald dX10_isSeen_47 a1 (vp_in_nI (by omega) (by decide)) ?_
          rw [nI_clamp (by omega), gr.2 x g1 c hc]
          refine z_iload_n dX10_isSeen_48 rfl ?_
          refine z_icmp_ge 56 dX10_isSeen_49 (by decide) (fun c49 => ?_) (fun c49 => ?_)
          · have hd : ¬ aV (wA w) x c < b := by have := i_le hb (by have := hv x g1 c hc; omega) c49; omega
            rw [decide_eq_false hd] at hs
            refine z_iconst 0 dX10_isSeen_56 rfl ?_
            refine z_aload_n dX10_isSeen_57 rfl ?_
            refine s_getr f_Mo_11 dX10_isSeen_58 (by assumption) rfl ?_
            refine z_sipush 493 dX10_isSeen_61 (by decide) ?_
            refine z_iconst 2 dX10_isSeen_64 rfl ?_
            refine z_iload_n dX10_isSeen_65 rfl ?_
            refine z_imul dX10_isSeen_66 ?_
            refine z_iadd dX10_isSeen_67 ?_
            rw [nI21, show (493 : Int32) = nI 493 from rfl, nI_add]
            refine z_iconst 1 dX10_isSeen_68 rfl ?_
            refine z_iadd dX10_isSeen_69 ?_
            rw [nI_1]
            refine s_iald dX10_isSeen_70 a1 (vp_in_nI (by omega) (by decide)) ?_
            rw [nI_clamp (by omega), x2]
            refine z_iconst 1 dX10_isSeen_71 rfl ?_
            refine z_icmp_ne 79 dX10_isSeen_72 (by decide) (fun c72 => ?_) (fun c72 => ?_)
            · rw [decide_eq_false (show ¬ wg w (493 + 2 * i + 1) ≠ 0 from fun q => q (hy.resolve_right c72))] at hs
              refine z_iconst 0 dX10_isSeen_79 rfl ?_
              refine z_icmp_eq 85 dX10_isSeen_80 (by decide) (fun c80 => ?_) (fun c80 => ?_)
              · first
                  | exact absurd c80 (by decide)
                  | (refine z_iinc (lv' := [_, _, _, _, _]) 1 dX10_isSeen_85 rfl (by decide) rfl rfl ?_
                     refine z_goto 2 dX10_isSeen_88 (by decide) ?_
                     rw [nI_1]
                     exact ih (i + 1) _ (by omega) (by omega) (fun k hk => if e : k = i then by rw [e]; exact hs else h3 k (by omega)))
              · first
                  | exact absurd rfl c80
                  | (refine z_iconst 0 dX10_isSeen_83 rfl ?_
                     refine z_ireturn dX10_isSeen_84 rfl rfl ⟨Nat.le_refl _, Nat.le_refl _⟩ ?_
                     first
                       | exact ⟨rfl, rfl, rfl⟩
                       | (rw [allB_f (i := i) (by omega) hs]; exact ⟨rfl, rfl, rfl⟩)
                       | skip)
            · rw [decide_eq_true (show wg w (493 + 2 * i + 1) ≠ 0 by rw [c72]; decide)] at hs
              refine z_iconst 1 dX10_isSeen_75 rfl ?_
              refine z_goto 80 dX10_isSeen_76 (by decide) ?_
              refine z_icmp_eq 85 dX10_isSeen_80 (by decide) (fun c80 => ?_) (fun c80 => ?_)
              · first
                  | exact absurd c80 (by decide)
                  | (refine z_iinc (lv' := [_, _, _, _, _]) 1 dX10_isSeen_85 rfl (by decide) rfl rfl ?_
                     refine z_goto 2 dX10_isSeen_88 (by decide) ?_
                     rw [nI_1]
                     exact ih (i + 1) _ (by omega) (by omega) (fun k hk => if e : k = i then by rw [e]; exact hs else h3 k (by omega)))
              · first
                  | exact absurd rfl c80
                  | (refine z_iconst 0 dX10_isSeen_83 rfl ?_
                     refine z_ireturn dX10_isSeen_84 rfl rfl ⟨Nat.le_refl _, Nat.le_refl _⟩ ?_
                     first
                       | exact ⟨rfl, rfl, rfl⟩
                       | (rw [allB_f (i := i) (by omega) hs]; exact ⟨rfl, rfl, rfl⟩)
                       | skip)
          · have hd : aV (wA w) x c < b := i_nle (by have := hv x g1 c hc; omega) c49
            rw [decide_eq_true hd] at hs
            refine z_iconst 1 dX10_isSeen_52 rfl ?_
            refine z_goto 57 dX10_isSeen_53 (by decide) ?_
            refine z_aload_n dX10_isSeen_57 rfl ?_
            refine s_getr f_Mo_11 dX10_isSeen_58 (by assumption) rfl ?_
            refine z_sipush 493 dX10_isSeen_61 (by decide) ?_
            refine z_iconst 2 dX10_isSeen_64 rfl ?_
            refine z_iload_n dX10_isSeen_65 rfl ?_
            refine z_imul dX10_isSeen_66 ?_
            refine z_iadd dX10_isSeen_67 ?_
            rw [nI21, show (493 : Int32) = nI 493 from rfl, nI_add]
            refine z_iconst 1 dX10_isSeen_68 rfl ?_
            refine z_iadd dX10_isSeen_69 ?_
            rw [nI_1]
            refine s_iald dX10_isSeen_70 a1 (vp_in_nI (by omega) (by decide)) ?_
            rw [nI_clamp (by omega), x2]
            refine z_iconst 1 dX10_isSeen_71 rfl ?_
            refine z_icmp_ne 79 dX10_isSeen_72 (by decide) (fun c72 => ?_) (fun c72 => ?_)
            · rw [decide_eq_false (show ¬ wg w (493 + 2 * i + 1) ≠ 0 from fun q => q (hy.resolve_right c72))] at hs
              refine z_iconst 0 dX10_isSeen_79 rfl ?_
              refine z_icmp_eq 85 dX10_isSeen_80 (by decide) (fun c80 => ?_) (fun c80 => ?_)
              · first
                  | exact absurd c80 (by decide)
                  | (refine z_iinc (lv' := [_, _, _, _, _]) 1 dX10_isSeen_85 rfl (by decide) rfl rfl ?_
                     refine z_goto 2 dX10_isSeen_88 (by decide) ?_
                     rw [nI_1]
                     exact ih (i + 1) _ (by omega) (by omega) (fun k hk => if e : k = i then by rw [e]; exact hs else h3 k (by omega)))
              · first
                  | exact absurd rfl c80
                  | (refine z_iconst 0 dX10_isSeen_83 rfl ?_
                     refine z_ireturn dX10_isSeen_84 rfl rfl ⟨Nat.le_refl _, Nat.le_refl _⟩ ?_
                     first
                       | exact ⟨rfl, rfl, rfl⟩
                       | (rw [allB_f (i := i) (by omega) hs]; exact ⟨rfl, rfl, rfl⟩)
                       | skip)
            · rw [decide_eq_true (show wg w (493 + 2 * i + 1) ≠ 0 by rw [c72]; decide)] at hs
              refine z_iconst 1 dX10_isSeen_75 rfl ?_
              refine z_goto 80 dX10_isSeen_76 (by decide) ?_
              refine z_icmp_eq 85 dX10_isSeen_80 (by decide) (fun c80 => ?_) (fun c80 => ?_)
              · first
                  | exact absurd c80 (by decide)
                  | (refine z_iinc (lv' := [_, _, _, _, _]) 1 dX10_isSeen_85 rfl (by decide) rfl rfl ?_
                     refine z_goto 2 dX10_isSeen_88 (by decide) ?_
                     rw [nI_1]
                     exact ih (i + 1) _ (by omega) (by omega) (fun k hk => if e : k = i then by rw [e]; exact hs else h3 k (by omega)))
              · first
                  | exact absurd rfl c80
                  | (refine z_iconst 0 dX10_isSeen_83 rfl ?_
                     refine z_ireturn dX10_isSeen_84 rfl rfl ⟨Nat.le_refl _, Nat.le_refl _⟩ ?_
                     first
                       | exact ⟨rfl, rfl, rfl⟩
                       | (rw [allB_f (i := i) (by omega) hs]; exact ⟨rfl, rfl, rfl⟩)
                       | skip)
  refine z_iconst 0 dX10_isSeen_0 rfl ?_
  refine z_istore_n (lv' := [_, _, _, _, _]) dX10_isSeen_1 (by decide) rfl ?_
  exact loop (aS (wA w)) 0 _ rfl (Nat.zero_le _) (fun k hk => absurd hk (Nat.not_lt_zero _))
theorem C_Mo_bounds {p q : Int32} (hM : tMo sh m) (hR : rMo S m w) (hW : wOK w) (h0 : ¬ (rg p 4 = true ∧ rg q 2 = true) → P (some (.int (-1))) S)
    (h1 : ∀ c, c < 4 → p = nI c → rg q 2 = true → P (some (.int (if q = 0 then nI (bdS (fun v => allB (sbB (wA w) (wg w) c v) (aS (wA w))) 16).2 else (bdS (fun v => allB (sbB (wA w) (wg w) c v) (aS (wA w))) 16).1))) S) : zR G m_Mo_bounds 4 sh [.ref m, .int p, .int q] S P := by
  obtain ⟨m0, a1, a2, a3, a4, a5, a6, a7, a8, a9, a10, a11, a12, a13, a14, a15, a16, a22⟩ := id hM
  obtain ⟨g0, gi, ⟨g2, g2q⟩, ⟨g3, g3x⟩, g4⟩ := id hW
  obtain ⟨⟨b1, b2, b3, b4, b5⟩, ⟨e1, e2, e3, e4, e5⟩, eV, eM, eMo, eS, eB⟩ := id g0
  have hv : ∀ j, j < aN (wA w) → ∀ c, c < 4 → aV (wA w) j c < 16 := fun j hj c hc => (eV j hj c hc).2
  refine s_meth 3 ⟨p_Mo, rfl, Nat.le_of_ble_eq_true rfl⟩ rfl (fun sz => ?_)
  have loop : ∀ c, c < 4 → p = nI c → rg q 2 = true → ∀ i d1 d2, i < 16 → d1 = (bdS (fun v => allB (sbB (wA w) (wg w) c v) (aS (wA w))) (15 - i)).1 → d2 = (bdS (fun v => allB (sbB (wA w) (wg w) c v) (aS (wA w))) (15 - i)).2 → zW G m_Mo_bounds (zRm 4 0 0) (zFm G (zP sh sz P) 0 0) 0 0 30 [some (.ref m), some (.int p), some (.int q), some (.int (nI d2)), some (.int d1), some (.int (nI i))] [] (zhp sh S) sz := by
    intro c hc hac hb2 i
    have fin : ∀ d1 d2, d1 = (bdS (fun v => allB (sbB (wA w) (wg w) c v) (aS (wA w))) 16).1 → d2 = (bdS (fun v => allB (sbB (wA w) (wg w) c v) (aS (wA w))) 16).2 → zW G m_Mo_bounds (zRm 4 0 0) (zFm G (zP sh sz P) 0 0) 0 0 30 [some (.ref m), some (.int p), some (.int q), some (.int (nI d2)), some (.int d1), some (.int (-1))] [] (zhp sh S) sz := by
      intro d1 d2 e1 e2
      have hA := h1 c hc hac hb2
      rw [← e1, ← e2] at hA
      refine z_iload dX10_bounds_30 rfl ?_
      refine z_if_lt 58 dX10_bounds_32 (by decide) (fun c32 => ?_) (fun c32 => ?_)
      · refine z_iload_n dX10_bounds_58 rfl ?_
        refine z_if_ne 66 dX10_bounds_59 (by decide) (fun c59 => ?_) (fun c59 => ?_)
        · rw [if_neg c59] at hA
          refine z_iload dX10_bounds_66 rfl ?_
          refine z_ireturn dX10_bounds_68 rfl rfl ⟨Nat.le_refl _, Nat.le_refl _⟩ ?_
          exact ⟨rfl, _, rfl, hA⟩
        · rw [if_pos c59] at hA
          refine z_iload_n dX10_bounds_62 rfl ?_
          refine z_goto 68 dX10_bounds_63 (by decide) ?_
          refine z_ireturn dX10_bounds_68 rfl rfl ⟨Nat.le_refl _, Nat.le_refl _⟩ ?_
          exact ⟨rfl, _, rfl, hA⟩
      · exact absurd (show (-1 : Int32) < 0 by decide) c32
    subst hac
    induction i with
    | zero =>
      intro d1 d2 hi e1 e2
      have st : bdS (fun v => allB (sbB (wA w) (wg w) c v) (aS (wA w))) 16 = if allB (sbB (wA w) (wg w) c 0) (aS (wA w)) = true then (nI 0, (bdS (fun v => allB (sbB (wA w) (wg w) c v) (aS (wA w))) 15).2 + 1) else bdS (fun v => allB (sbB (wA w) (wg w) c v) (aS (wA w))) 15 := rfl
      refine z_iload dX10_bounds_30 rfl ?_
      refine z_if_lt 58 dX10_bounds_32 (by decide) (fun c32 => ?_) (fun c32 => ?_)
      · exact absurd c32 (nI_pos (n := 0) (by decide))
      · refine z_aload_n dX10_bounds_35 rfl ?_
        refine z_iload_n dX10_bounds_36 rfl ?_
        refine z_iload dX10_bounds_37 rfl ?_
        refine s_callV1 l_Mo_176 (C_Mo_isSeen hM hR hW hc (by decide)) m0 dX10_bounds_39 rfl rfl (Nat.le_of_ble_eq_true rfl) ⟨⟨by decide, by decide⟩, by decide, by decide⟩ ?_
        refine z_if_eq 52 dX10_bounds_42 (by decide) (fun c42 => ?_) (fun c42 => ?_)
        · rw [if_neg (fun q => zoT q c42)] at st
          refine z_iinc (lv' := [_, _, _, _, _, _]) (-1) dX10_bounds_52 rfl (by decide) rfl rfl ?_
          refine z_goto 30 dX10_bounds_55 (by decide) ?_
          first
            | exact fin _ _ (by rw [st]; exact e1) (by rw [st]; exact e2)
            | (rw [nI_1]; exact fin _ _ (by rw [st]) (by rw [st, e2]))
            | skip
        · rw [if_pos (zo_ne0.mp c42)] at st
          refine z_iinc (lv' := [_, _, _, _, _, _]) 1 dX10_bounds_45 rfl (by decide) rfl rfl ?_
          refine z_iload dX10_bounds_48 rfl ?_
          refine z_istore (lv' := [_, _, _, _, _, _]) dX10_bounds_50 (by decide) rfl ?_
          refine z_iinc (lv' := [_, _, _, _, _, _]) (-1) dX10_bounds_52 rfl (by decide) rfl rfl ?_
          refine z_goto 30 dX10_bounds_55 (by decide) ?_
          first
            | exact fin _ _ (by rw [st]; exact e1) (by rw [st]; exact e2)
            | (rw [nI_1]; exact fin _ _ (by rw [st]) (by rw [st, e2]))
            | skip
    | succ i ih =>
      intro d1 d2 hi e1 e2
      have st : bdS (fun v => allB (sbB (wA w) (wg w) c v) (aS (wA w))) (15 - i) = if allB (sbB (wA w) (wg w) c (i + 1)) (aS (wA w)) = true then (nI (i + 1), (bdS (fun v => allB (sbB (wA w) (wg w) c v) (aS (wA w))) (15 - (i + 1))).2 + 1) else bdS (fun v => allB (sbB (wA w) (wg w) c v) (aS (wA w))) (15 - (i + 1)) := by
        obtain ⟨m, hm⟩ : ∃ m, 15 - i = m + 1 := ⟨14 - i, by omega⟩
        rw [hm, show 15 - (i + 1) = m by omega, show i + 1 = 15 - m by omega]
        rfl
      refine z_iload dX10_bounds_30 rfl ?_
      refine z_if_lt 58 dX10_bounds_32 (by decide) (fun c32 => ?_) (fun c32 => ?_)
      · exact absurd c32 (nI_pos (n := i + 1) (by omega))
      · refine z_aload_n dX10_bounds_35 rfl ?_
        refine z_iload_n dX10_bounds_36 rfl ?_
        refine z_iload dX10_bounds_37 rfl ?_
        refine s_callV1 l_Mo_176 (C_Mo_isSeen hM hR hW hc (by omega)) m0 dX10_bounds_39 rfl rfl (Nat.le_of_ble_eq_true rfl) ⟨⟨by decide, by decide⟩, by decide, by decide⟩ ?_
        refine z_if_eq 52 dX10_bounds_42 (by decide) (fun c42 => ?_) (fun c42 => ?_)
        · rw [if_neg (fun q => zoT q c42)] at st
          refine z_iinc (lv' := [_, _, _, _, _, _]) (-1) dX10_bounds_52 rfl (by decide) rfl rfl ?_
          refine z_goto 30 dX10_bounds_55 (by decide) ?_
          rw [nI_m1]
          first
            | exact ih _ _ (by omega) (by rw [st]; exact e1) (by rw [st]; exact e2)
            | (rw [nI_1]; exact ih _ _ (by omega) (by rw [st]) (by rw [st, e2]))
            | skip
        · rw [if_pos (zo_ne0.mp c42)] at st
          refine z_iinc (lv' := [_, _, _, _, _, _]) 1 dX10_bounds_45 rfl (by decide) rfl rfl ?_
          refine z_iload dX10_bounds_48 rfl ?_
          refine z_istore (lv' := [_, _, _, _, _, _]) dX10_bounds_50 (by decide) rfl ?_
          refine z_iinc (lv' := [_, _, _, _, _, _]) (-1) dX10_bounds_52 rfl (by decide) rfl rfl ?_
          refine z_goto 30 dX10_bounds_55 (by decide) ?_
          rw [nI_m1]
          first
            | exact ih _ _ (by omega) (by rw [st]; exact e1) (by rw [st]; exact e2)
            | (rw [nI_1]; exact ih _ _ (by omega) (by rw [st]) (by rw [st, e2]))
            | skip
  refine z_iload_n dX10_bounds_0 rfl ?_
  refine z_iconst 0 dX10_bounds_1 rfl ?_
  refine z_iconst 3 dX10_bounds_2 rfl ?_
  refine s_callS1 l_Mo_63 (C_Mo_in0 (n := 4) (by decide) (by decide)) dX10_bounds_3 rfl rfl (Nat.le_of_ble_eq_true rfl) ⟨⟨by decide, by decide⟩, by decide, by decide⟩ ?_
  refine z_if_eq 18 dX10_bounds_6 (by decide) (fun c6 => ?_) (fun c6 => ?_)
  · refine z_iconst (-1) dX10_bounds_18 rfl ?_
    refine z_ireturn dX10_bounds_19 rfl rfl ⟨Nat.le_refl _, Nat.le_refl _⟩ ?_
    first
      | exact ⟨rfl, _, rfl, h0 (fun q => zoT q.1 c6)⟩
      | exact ⟨rfl, _, rfl, h0 (fun q => zoT q.2 c15)⟩
      | skip
  · refine z_iload_n dX10_bounds_9 rfl ?_
    refine z_iconst 0 dX10_bounds_10 rfl ?_
    refine z_iconst 1 dX10_bounds_11 rfl ?_
    refine s_callS1 l_Mo_63 (C_Mo_in0 (n := 2) (by decide) (by decide)) dX10_bounds_12 rfl rfl (Nat.le_of_ble_eq_true rfl) ⟨⟨by decide, by decide⟩, by decide, by decide⟩ ?_
    refine z_if_ne 20 dX10_bounds_15 (by decide) (fun c15 => ?_) (fun c15 => ?_)
    · refine z_iconst 0 dX10_bounds_20 rfl ?_
      refine z_istore_n (lv' := [_, _, _, _, _, _]) dX10_bounds_21 (by decide) rfl ?_
      refine z_bipush (-5) dX10_bounds_22 (by decide) ?_
      refine z_istore (lv' := [_, _, _, _, _, _]) dX10_bounds_24 (by decide) rfl ?_
      refine z_bipush 15 dX10_bounds_26 (by decide) ?_
      refine z_istore (lv' := [_, _, _, _, _, _]) dX10_bounds_28 (by decide) rfl ?_
      obtain ⟨c, hc, e⟩ := rg_t (by decide) (zo_ne0.mp c6)
      exact loop c hc e (zo_ne0.mp c15) 15 (-5) 0 (by decide) rfl rfl
    · refine z_iconst (-1) dX10_bounds_18 rfl ?_
      refine z_ireturn dX10_bounds_19 rfl rfl ⟨Nat.le_refl _, Nat.le_refl _⟩ ?_
      first
        | exact ⟨rfl, _, rfl, h0 (fun q => zoT q.1 c6)⟩
        | exact ⟨rfl, _, rfl, h0 (fun q => zoT q.2 c15)⟩
        | skip
/-- one tape of the model has changed -/
theorem rMo.tape {S S' : zSt} {m t : Nat} {w : Wd} {P : Nat → Prop} {T : Int32 × Nat × (Nat → Int64)} (h : rMo S m w) (hf : frS S P S') (ht6 : t < 6) (hP : ∀ b, m ≤ b → b < m + 23 → b ≠ m + 13 → b ≠ m + 14 → b ≠ m + 16 + t → b ≠ m + 22 → ¬ P b) (ho : ∀ u, u < 6 → u ≠ t → za S' (m + 13) u = za S (m + 13) u ∧ za S' (m + 14) u = za S (m + 14) u) (ht : za S' (m + 13) t = T.1 ∧ za S' (m + 14) t = nI T.2.1 ∧ ∀ i, i < 60 → zj S' (m + 16 + t) i = T.2.2 i) : rMo S' m (wTape w t T) := by
  obtain ⟨k1, k2, k3, ⟨k4, kr⟩, ⟨kL, ktx⟩, kt⟩ := id h
  have o : ∀ b, m ≤ b → b < m + 23 → b ≠ m + 13 → b ≠ m + 14 → b ≠ m + 16 + t → b ≠ m + 22 → zag S S' b := fun b p1 p2 p3 p4 p5 p6 => hf b (hP b p1 p2 p3 p4 p5 p6)
  refine h.upd (qs := w.2.2.1) (tx := w.2.2.2.1) (ts := fun u => if u = t then T else w.2.2.2.2 u) hf ⟨hP _ (by omega) (by omega) (by omega) (by omega) (by omega) (by omega), hP _ (by omega) (by omega) (by omega) (by omega) (by omega) (by omega)⟩ (congrFun (o _ (by omega) (by omega) (by omega) (by omega) (by omega) (by omega)).1 3) ⟨(congrFun (o _ (by omega) (by omega) (by omega) (by omega) (by omega) (by omega)).1 4).trans k4, fun k hk => ⟨(congrFun (o _ (by omega) (by omega) (by omega) (by omega) (by omega) (by omega)).2.2.1 k).trans (kr k hk).1, (kr k hk).2.fr hf (fun b b1 b2 => hP b (by omega) (by omega) (by omega) (by omega) (by omega) (by omega))⟩⟩ ⟨(congrFun (o _ (by omega) (by omega) (by omega) (by omega) (by omega) (by omega)).1 13).trans kL, fun i hi => (congrFun (o _ (by omega) (by omega) (by omega) (by omega) (by omega) (by omega)).2.2.1 i).trans (ktx i hi)⟩ (fun u hu => ?_)
  by_cases e : u = t
  · subst e
    rw [if_pos rfl]
    exact ht
  · rw [if_neg e]
    exact ⟨(ho u hu e).1.trans (kt u hu).1, (ho u hu e).2.trans (kt u hu).2.1, fun i hi => (congrFun (o _ (by omega) (by omega) (by omega) (by omega) (by omega) (by omega)).2.2.2 i).trans ((kt u hu).2.2 i hi)⟩
theorem C_Mo_tape {p q r : Int32} (hM : tMo sh m) (hR : rMo S m w) (h0 : ¬ rg p 6 = true → P (some (.int (-1))) S)
    (h1 : ∀ t S', t < 6 → p = nI t → q = -1 → frS S (inM m) S' → rMo S' m (wTape w t (-1, 0, fun _ => 0)) → P (some (.int 1)) S')
    (hb : rg p 6 = true → ¬ q = -1 → ¬ (rg q 5 = true ∧ r ≤ 60) → P (some (.int (-2))) S) (hs : rg p 6 = true → rg q 5 = true → r < 0 → P (some (.int (-14))) S)
    (h2 : ∀ t k n S', t < 6 → p = nI t → k < 5 → q = nI k → n ≤ 60 → r = nI n → frS S (inM m) S' → rMo S' m (wTape w t (nI k, n, fun _ => 0)) → P (some (.int 1)) S') : zR G m_Mo_tape 3 sh [.ref m, .int p, .int q, .int r] S P := by
  obtain ⟨m0, a1, a2, a3, a4, a5, a6, a7, a8, a9, a10, a11, a12, a13, a14, a15, a16, a22⟩ := id hM
  have q5 : -1 ≤ q ∧ q ≤ 4 → ¬ q < 0 → rg q 5 = true := fun g1 g2 => by
    obtain ⟨j, hj, rfl⟩ := nI_of g2
    exact rg_n (by have := i_le (b := 4) hj (by decide) g1.2; omega) (by decide)
  have qm : -1 ≤ q → q < 0 → q = -1 := fun g1 g2 => by
    have h1 := Int32.le_iff_toInt_le.mp g1
    have h2 := Int32.lt_iff_toInt_lt.mp g2
    have e1 : (-1 : Int32).toInt = -1 := by decide
    have e2 : (0 : Int32).toInt = 0 := by decide
    rw [e1] at h1
    rw [e2] at h2
    exact Int32.toInt_inj.mp (by rw [e1]; omega)
  refine s_meth 1 ⟨p_Mo, rfl, Nat.le_of_ble_eq_true rfl⟩ rfl (fun sz => ?_)
  have main : ∀ t z, t < 6 → p = nI t → z ≤ 60 → (∀ S', frS S (inM m) S' → rMo S' m (wTape w t (q, z, fun _ => 0)) → P (some (.int 1)) S') → ∀ d i S', 60 - i = d → i ≤ 60 → frS S (fun b => b = m + 13 ∨ b = m + 14 ∨ b = m + 16 + t) S' → za S' (m + 13) t = q ∧ za S' (m + 14) t = nI z → (∀ u, u < 6 → u ≠ t → za S' (m + 13) u = za S (m + 13) u ∧ za S' (m + 14) u = za S (m + 14) u) → (∀ j, j < i → zj S' (m + 16 + t) j = 0) → zW G m_Mo_tape (zRm 3 0 0) (zFm G (zP sh sz P) 0 0) 0 0 67 [some (.ref m), some (.int (nI t)), some (.int q), some (.int r), some (.int (nI i))] [] (zhp sh S') sz := by
    intro t z ht hp hz hA d
    induction d with
    | zero =>
      intro i S' f1 f2 f3 f4 f5 f6
      have hi : i = 60 := by omega
      subst hi
      refine z_iload dX10_tape_67 rfl ?_
      refine z_bipush 60 dX10_tape_69 (by decide) ?_
      refine z_icmp_ge 90 dX10_tape_71 (by decide) (fun c71 => ?_) (fun c71 => ?_)
      · refine z_iconst 1 dX10_tape_90 rfl ?_
        refine z_ireturn dX10_tape_91 rfl rfl ⟨Nat.le_refl _, Nat.le_refl _⟩ ?_
        exact ⟨rfl, _, rfl, hA S' (f3.weaken (fun b hb => by unfold inM; omega)) (hR.tape f3 ht (fun b b1 b2 b3 b4 b5 b6 => by omega) f5 ⟨f4.1, f4.2, f6⟩)⟩
      · exact absurd (nI_le (a := 60) (b := 60) (Nat.le_refl _) (by decide)) c71
    | succ d ih =>
      intro i S' f1 f2 f3 f4 f5 f6
      refine z_iload dX10_tape_67 rfl ?_
      refine z_bipush 60 dX10_tape_69 (by decide) ?_
      refine z_icmp_ge 90 dX10_tape_71 (by decide) (fun c71 => ?_) (fun c71 => ?_)
      · exact absurd c71 (nI_ge (b := 60) (by omega) (by decide))
      · refine z_aload_n dX10_tape_74 rfl ?_
        refine s_getr f_Mo_56 dX10_tape_75 (by assumption) rfl ?_
        refine z_iload_n dX10_tape_78 rfl ?_
        refine s_aald (by decide) dX10_tape_79 a15 (vp_in_nI ht (by decide)) (by rw [nI_clamp (by omega)]; exact if_pos ht) ?_
        refine z_iload dX10_tape_80 rfl ?_
        refine z_lconst 0 dX10_tape_82 (by decide) ?_
        refine s_last dX10_tape_83 (a16 t ht) (vp_in_nI (by omega) (by decide)) ?_
        refine z_iinc (lv' := [_, _, _, _, _]) 1 dX10_tape_84 rfl (by decide) rfl rfl ?_
        refine z_goto 67 dX10_tape_87 (by decide) ?_
        rw [nI_1, nI_clamp (by omega)]
        refine ih (i + 1) _ (by omega) (by omega) (f3.trans (frS.setj (Or.inr (Or.inr rfl)))) f4 f5 (fun j hj => ?_)
        by_cases e : j = i
        · subst e; exact zup_same
        · exact (zup_ne (fun q => e q.2)).trans (f6 j (by omega))
  refine z_iload_n dX10_tape_0 rfl ?_
  refine s_callS1 l_Mo_195 (C_Mo_isTape) dX10_tape_1 rfl rfl (Nat.le_of_ble_eq_true rfl) ⟨⟨by decide, by decide⟩, by decide, by decide⟩ ?_
  refine z_if_ne 9 dX10_tape_4 (by decide) (fun c4 => ?_) (fun c4 => ?_)
  · refine z_iload_n dX10_tape_9 rfl ?_
    refine z_iconst (-1) dX10_tape_10 rfl ?_
    refine z_iconst 4 dX10_tape_11 rfl ?_
    refine s_callS1 l_Mo_63 (C_Mo_in) dX10_tape_12 rfl rfl (Nat.le_of_ble_eq_true rfl) ⟨⟨by decide, by decide⟩, by decide, by decide⟩ ?_
    refine z_if_eq 28 dX10_tape_15 (by decide) (fun c15 => ?_) (fun c15 => ?_)
    · refine z_bipush (-2) dX10_tape_28 (by decide) ?_
      refine z_ireturn dX10_tape_30 rfl rfl ⟨Nat.le_refl _, Nat.le_refl _⟩ ?_
      first
        | exact ⟨rfl, _, rfl, hb (zo_ne0.mp c4) (fun z => zoT (decide_eq_true (by rw [z]; decide)) c15) (fun z => zoT (decide_eq_true ⟨Int32.le_trans (show (-1 : Int32) ≤ 0 by decide) (of_decide_eq_true z.1).1, by
            obtain ⟨j, hj, rfl⟩ := rg_t (by decide) z.1
            exact nI_le (b := 4) (by omega) (by decide)⟩) c15)⟩
        | exact ⟨rfl, _, rfl, hb (zo_ne0.mp c4) (fun z => c19 (by rw [z]; decide)) (fun z => c25 z.2)⟩
        | skip
    · have hin := of_decide_eq_true (zo_ne0.mp c15)
      refine z_iload_n dX10_tape_18 rfl ?_
      refine z_if_lt 31 dX10_tape_19 (by decide) (fun c19 => ?_) (fun c19 => ?_)
      · refine z_iload_n dX10_tape_31 rfl ?_
        refine z_if_lt 42 dX10_tape_32 (by decide) (fun c32 => ?_) (fun c32 => ?_)
        · obtain ⟨t, ht, rfl⟩ := rg_t (by decide) (zo_ne0.mp c4)
          refine z_aload_n dX10_tape_42 rfl ?_
          refine s_getr f_Mo_48 dX10_tape_43 (by assumption) rfl ?_
          refine z_iload_n dX10_tape_46 rfl ?_
          refine z_iload_n dX10_tape_47 rfl ?_
          refine s_iast dX10_tape_48 a13 (vp_in_nI ht (by decide)) ?_
          rw [nI_clamp (by omega)]
          refine z_aload_n dX10_tape_49 rfl ?_
          refine s_getr f_Mo_51 dX10_tape_50 (by assumption) rfl ?_
          refine z_iload_n dX10_tape_53 rfl ?_
          refine z_iload_n dX10_tape_54 rfl ?_
          refine z_if_ge 62 dX10_tape_55 (by decide) (fun c55 => ?_) (fun c55 => ?_)
          · refine z_iload_n dX10_tape_62 rfl ?_
            refine s_iast dX10_tape_63 a14 (vp_in_nI ht (by decide)) ?_
            rw [nI_clamp (by omega)]
            refine z_iconst 0 dX10_tape_64 rfl ?_
            refine z_istore (lv' := [_, _, _, _, _]) dX10_tape_65 (by decide) rfl ?_
            first
              | (have hq := qm hin.1 c32
                 have ff : ∀ u1 u2, frS S (fun b => b = m + 13 ∨ b = m + 14 ∨ b = m + 16 + t) (zsa (zsa S (m + 13) t u1) (m + 14) t u2) := fun u1 u2 => (frS.seta (Or.inl rfl)).trans (frS.seta (Or.inr (Or.inl rfl)))
                 refine main t 0 ht rfl (by decide) (fun S' g1 g2 => h1 t S' ht rfl hq g1 (by rw [← hq]; exact g2)) 60 0 _ rfl (Nat.zero_le _) (ff _ _) ⟨(zup_ne (by omega)).trans zup_same, zup_same⟩ (fun u hu e => ⟨(zup_ne (by omega)).trans (zup_ne (by omega)), (zup_ne (by omega)).trans (zup_ne (by omega))⟩) (fun j hj => absurd hj (Nat.not_lt_zero _)))
              | (obtain ⟨k, hk, hq⟩ := rg_t (by decide) (q5 hin c32)
                 obtain ⟨n, hn, rfl⟩ := nI_of (Int32.not_lt.mpr c36)
                 have hn60 := i_le (b := 60) hn (by decide) c25
                 have ff : ∀ u1 u2, frS S (fun b => b = m + 13 ∨ b = m + 14 ∨ b = m + 16 + t) (zsa (zsa S (m + 13) t u1) (m + 14) t u2) := fun u1 u2 => (frS.seta (Or.inl rfl)).trans (frS.seta (Or.inr (Or.inl rfl)))
                 refine main t n ht rfl hn60 (fun S' g1 g2 => h2 t k n S' ht rfl hk hq hn60 rfl g1 (by rw [← hq]; exact g2)) 60 0 _ rfl (Nat.zero_le _) (ff _ _) ⟨(zup_ne (by omega)).trans zup_same, zup_same⟩ (fun u hu e => ⟨(zup_ne (by omega)).trans (zup_ne (by omega)), (zup_ne (by omega)).trans (zup_ne (by omega))⟩) (fun j hj => absurd hj (Nat.not_lt_zero _)))
              | exact absurd c32 (Int32.not_lt.mpr c55)
              | exact absurd (Int32.not_lt.mp c32) c55
              | exact absurd c19 (Int32.not_lt.mpr c55)
              | exact absurd c19 c32
              | exact absurd c32 c19
              | skip
          · refine z_iconst 0 dX10_tape_58 rfl ?_
            refine z_goto 63 dX10_tape_59 (by decide) ?_
            refine s_iast dX10_tape_63 a14 (vp_in_nI ht (by decide)) ?_
            rw [nI_clamp (by omega)]
            refine z_iconst 0 dX10_tape_64 rfl ?_
            refine z_istore (lv' := [_, _, _, _, _]) dX10_tape_65 (by decide) rfl ?_
            first
              | (have hq := qm hin.1 c32
                 have ff : ∀ u1 u2, frS S (fun b => b = m + 13 ∨ b = m + 14 ∨ b = m + 16 + t) (zsa (zsa S (m + 13) t u1) (m + 14) t u2) := fun u1 u2 => (frS.seta (Or.inl rfl)).trans (frS.seta (Or.inr (Or.inl rfl)))
                 refine main t 0 ht rfl (by decide) (fun S' g1 g2 => h1 t S' ht rfl hq g1 (by rw [← hq]; exact g2)) 60 0 _ rfl (Nat.zero_le _) (ff _ _) ⟨(zup_ne (by omega)).trans zup_same, zup_same⟩ (fun u hu e => ⟨(zup_ne (by omega)).trans (zup_ne (by omega)), (zup_ne (by omega)).trans (zup_ne (by omega))⟩) (fun j hj => absurd hj (Nat.not_lt_zero _)))
              | (obtain ⟨k, hk, hq⟩ := rg_t (by decide) (q5 hin c32)
                 obtain ⟨n, hn, rfl⟩ := nI_of (Int32.not_lt.mpr c36)
                 have hn60 := i_le (b := 60) hn (by decide) c25
                 have ff : ∀ u1 u2, frS S (fun b => b = m + 13 ∨ b = m + 14 ∨ b = m + 16 + t) (zsa (zsa S (m + 13) t u1) (m + 14) t u2) := fun u1 u2 => (frS.seta (Or.inl rfl)).trans (frS.seta (Or.inr (Or.inl rfl)))
                 refine main t n ht rfl hn60 (fun S' g1 g2 => h2 t k n S' ht rfl hk hq hn60 rfl g1 (by rw [← hq]; exact g2)) 60 0 _ rfl (Nat.zero_le _) (ff _ _) ⟨(zup_ne (by omega)).trans zup_same, zup_same⟩ (fun u hu e => ⟨(zup_ne (by omega)).trans (zup_ne (by omega)), (zup_ne (by omega)).trans (zup_ne (by omega))⟩) (fun j hj => absurd hj (Nat.not_lt_zero _)))
              | exact absurd c32 (Int32.not_lt.mpr c55)
              | exact absurd (Int32.not_lt.mp c32) c55
              | exact absurd c19 (Int32.not_lt.mpr c55)
              | exact absurd c19 c32
              | exact absurd c32 c19
              | skip
        · refine z_iload_n dX10_tape_35 rfl ?_
          refine z_if_ge 42 dX10_tape_36 (by decide) (fun c36 => ?_) (fun c36 => ?_)
          · obtain ⟨t, ht, rfl⟩ := rg_t (by decide) (zo_ne0.mp c4)
            refine z_aload_n dX10_tape_42 rfl ?_
            refine s_getr f_Mo_48 dX10_tape_43 (by assumption) rfl ?_
            refine z_iload_n dX10_tape_46 rfl ?_
            refine z_iload_n dX10_tape_47 rfl ?_
            refine s_iast dX10_tape_48 a13 (vp_in_nI ht (by decide)) ?_
            rw [nI_clamp (by omega)]
            refine z_aload_n dX10_tape_49 rfl ?_
            refine s_getr f_Mo_51 dX10_tape_50 (by assumption) rfl ?_
            refine z_iload_n dX10_tape_53 rfl ?_
            refine z_iload_n dX10_tape_54 rfl ?_
            refine z_if_ge 62 dX10_tape_55 (by decide) (fun c55 => ?_) (fun c55 => ?_)
            · refine z_iload_n dX10_tape_62 rfl ?_
              refine s_iast dX10_tape_63 a14 (vp_in_nI ht (by decide)) ?_
              rw [nI_clamp (by omega)]
              refine z_iconst 0 dX10_tape_64 rfl ?_
              refine z_istore (lv' := [_, _, _, _, _]) dX10_tape_65 (by decide) rfl ?_
              first
                | (have hq := qm hin.1 c32
                   have ff : ∀ u1 u2, frS S (fun b => b = m + 13 ∨ b = m + 14 ∨ b = m + 16 + t) (zsa (zsa S (m + 13) t u1) (m + 14) t u2) := fun u1 u2 => (frS.seta (Or.inl rfl)).trans (frS.seta (Or.inr (Or.inl rfl)))
                   refine main t 0 ht rfl (by decide) (fun S' g1 g2 => h1 t S' ht rfl hq g1 (by rw [← hq]; exact g2)) 60 0 _ rfl (Nat.zero_le _) (ff _ _) ⟨(zup_ne (by omega)).trans zup_same, zup_same⟩ (fun u hu e => ⟨(zup_ne (by omega)).trans (zup_ne (by omega)), (zup_ne (by omega)).trans (zup_ne (by omega))⟩) (fun j hj => absurd hj (Nat.not_lt_zero _)))
                | (obtain ⟨k, hk, hq⟩ := rg_t (by decide) (q5 hin c32)
                   obtain ⟨n, hn, rfl⟩ := nI_of (Int32.not_lt.mpr c36)
                   have hn60 := i_le (b := 60) hn (by decide) c25
                   have ff : ∀ u1 u2, frS S (fun b => b = m + 13 ∨ b = m + 14 ∨ b = m + 16 + t) (zsa (zsa S (m + 13) t u1) (m + 14) t u2) := fun u1 u2 => (frS.seta (Or.inl rfl)).trans (frS.seta (Or.inr (Or.inl rfl)))
                   refine main t n ht rfl hn60 (fun S' g1 g2 => h2 t k n S' ht rfl hk hq hn60 rfl g1 (by rw [← hq]; exact g2)) 60 0 _ rfl (Nat.zero_le _) (ff _ _) ⟨(zup_ne (by omega)).trans zup_same, zup_same⟩ (fun u hu e => ⟨(zup_ne (by omega)).trans (zup_ne (by omega)), (zup_ne (by omega)).trans (zup_ne (by omega))⟩) (fun j hj => absurd hj (Nat.not_lt_zero _)))
                | exact absurd c32 (Int32.not_lt.mpr c55)
                | exact absurd (Int32.not_lt.mp c32) c55
                | exact absurd c19 (Int32.not_lt.mpr c55)
                | exact absurd c19 c32
                | exact absurd c32 c19
                | skip
            · refine z_iconst 0 dX10_tape_58 rfl ?_
              refine z_goto 63 dX10_tape_59 (by decide) ?_
              refine s_iast dX10_tape_63 a14 (vp_in_nI ht (by decide)) ?_
              rw [nI_clamp (by omega)]
              refine z_iconst 0 dX10_tape_64 rfl ?_
              refine z_istore (lv' := [_, _, _, _, _]) dX10_tape_65 (by decide) rfl ?_
              first
                | (have hq := qm hin.1 c32
                   have ff : ∀ u1 u2, frS S (fun b => b = m + 13 ∨ b = m + 14 ∨ b = m + 16 + t) (zsa (zsa S (m + 13) t u1) (m + 14) t u2) := fun u1 u2 => (frS.seta (Or.inl rfl)).trans (frS.seta (Or.inr (Or.inl rfl)))
                   refine main t 0 ht rfl (by decide) (fun S' g1 g2 => h1 t S' ht rfl hq g1 (by rw [← hq]; exact g2)) 60 0 _ rfl (Nat.zero_le _) (ff _ _) ⟨(zup_ne (by omega)).trans zup_same, zup_same⟩ (fun u hu e => ⟨(zup_ne (by omega)).trans (zup_ne (by omega)), (zup_ne (by omega)).trans (zup_ne (by omega))⟩) (fun j hj => absurd hj (Nat.not_lt_zero _)))
                | (obtain ⟨k, hk, hq⟩ := rg_t (by decide) (q5 hin c32)
                   obtain ⟨n, hn, rfl⟩ := nI_of (Int32.not_lt.mpr c36)
                   have hn60 := i_le (b := 60) hn (by decide) c25
                   have ff : ∀ u1 u2, frS S (fun b => b = m + 13 ∨ b = m + 14 ∨ b = m + 16 + t) (zsa (zsa S (m + 13) t u1) (m + 14) t u2) := fun u1 u2 => (frS.seta (Or.inl rfl)).trans (frS.seta (Or.inr (Or.inl rfl)))
                   refine main t n ht rfl hn60 (fun S' g1 g2 => h2 t k n S' ht rfl hk hq hn60 rfl g1 (by rw [← hq]; exact g2)) 60 0 _ rfl (Nat.zero_le _) (ff _ _) ⟨(zup_ne (by omega)).trans zup_same, zup_same⟩ (fun u hu e => ⟨(zup_ne (by omega)).trans (zup_ne (by omega)), (zup_ne (by omega)).trans (zup_ne (by omega))⟩) (fun j hj => absurd hj (Nat.not_lt_zero _)))
                | exact absurd c32 (Int32.not_lt.mpr c55)
                | exact absurd (Int32.not_lt.mp c32) c55
                | exact absurd c19 (Int32.not_lt.mpr c55)
                | exact absurd c19 c32
                | exact absurd c32 c19
                | skip
          · refine z_bipush (-14) dX10_tape_39 (by decide) ?_
            refine z_ireturn dX10_tape_41 rfl rfl ⟨Nat.le_refl _, Nat.le_refl _⟩ ?_
            exact ⟨rfl, _, rfl, hs (zo_ne0.mp c4) (q5 hin c32) (Int32.not_le.mp c36)⟩
      · refine z_iload_n dX10_tape_22 rfl ?_
        refine z_bipush 60 dX10_tape_23 (by decide) ?_
        refine z_icmp_le 31 dX10_tape_25 (by decide) (fun c25 => ?_) (fun c25 => ?_)
        · refine z_iload_n dX10_tape_31 rfl ?_
          refine z_if_lt 42 dX10_tape_32 (by decide) (fun c32 => ?_) (fun c32 => ?_)
          · obtain ⟨t, ht, rfl⟩ := rg_t (by decide) (zo_ne0.mp c4)
            refine z_aload_n dX10_tape_42 rfl ?_
            refine s_getr f_Mo_48 dX10_tape_43 (by assumption) rfl ?_
            refine z_iload_n dX10_tape_46 rfl ?_
            refine z_iload_n dX10_tape_47 rfl ?_
            refine s_iast dX10_tape_48 a13 (vp_in_nI ht (by decide)) ?_
            rw [nI_clamp (by omega)]
            refine z_aload_n dX10_tape_49 rfl ?_
            refine s_getr f_Mo_51 dX10_tape_50 (by assumption) rfl ?_
            refine z_iload_n dX10_tape_53 rfl ?_
            refine z_iload_n dX10_tape_54 rfl ?_
            refine z_if_ge 62 dX10_tape_55 (by decide) (fun c55 => ?_) (fun c55 => ?_)
            · refine z_iload_n dX10_tape_62 rfl ?_
              refine s_iast dX10_tape_63 a14 (vp_in_nI ht (by decide)) ?_
              rw [nI_clamp (by omega)]
              refine z_iconst 0 dX10_tape_64 rfl ?_
              refine z_istore (lv' := [_, _, _, _, _]) dX10_tape_65 (by decide) rfl ?_
              first
                | (have hq := qm hin.1 c32
                   have ff : ∀ u1 u2, frS S (fun b => b = m + 13 ∨ b = m + 14 ∨ b = m + 16 + t) (zsa (zsa S (m + 13) t u1) (m + 14) t u2) := fun u1 u2 => (frS.seta (Or.inl rfl)).trans (frS.seta (Or.inr (Or.inl rfl)))
                   refine main t 0 ht rfl (by decide) (fun S' g1 g2 => h1 t S' ht rfl hq g1 (by rw [← hq]; exact g2)) 60 0 _ rfl (Nat.zero_le _) (ff _ _) ⟨(zup_ne (by omega)).trans zup_same, zup_same⟩ (fun u hu e => ⟨(zup_ne (by omega)).trans (zup_ne (by omega)), (zup_ne (by omega)).trans (zup_ne (by omega))⟩) (fun j hj => absurd hj (Nat.not_lt_zero _)))
                | (obtain ⟨k, hk, hq⟩ := rg_t (by decide) (q5 hin c32)
                   obtain ⟨n, hn, rfl⟩ := nI_of (Int32.not_lt.mpr c36)
                   have hn60 := i_le (b := 60) hn (by decide) c25
                   have ff : ∀ u1 u2, frS S (fun b => b = m + 13 ∨ b = m + 14 ∨ b = m + 16 + t) (zsa (zsa S (m + 13) t u1) (m + 14) t u2) := fun u1 u2 => (frS.seta (Or.inl rfl)).trans (frS.seta (Or.inr (Or.inl rfl)))
                   refine main t n ht rfl hn60 (fun S' g1 g2 => h2 t k n S' ht rfl hk hq hn60 rfl g1 (by rw [← hq]; exact g2)) 60 0 _ rfl (Nat.zero_le _) (ff _ _) ⟨(zup_ne (by omega)).trans zup_same, zup_same⟩ (fun u hu e => ⟨(zup_ne (by omega)).trans (zup_ne (by omega)), (zup_ne (by omega)).trans (zup_ne (by omega))⟩) (fun j hj => absurd hj (Nat.not_lt_zero _)))
                | exact absurd c32 (Int32.not_lt.mpr c55)
                | exact absurd (Int32.not_lt.mp c32) c55
                | exact absurd c19 (Int32.not_lt.mpr c55)
                | exact absurd c19 c32
                | exact absurd c32 c19
                | skip
            · refine z_iconst 0 dX10_tape_58 rfl ?_
              refine z_goto 63 dX10_tape_59 (by decide) ?_
              refine s_iast dX10_tape_63 a14 (vp_in_nI ht (by decide)) ?_
              rw [nI_clamp (by omega)]
              refine z_iconst 0 dX10_tape_64 rfl ?_
              refine z_istore (lv' := [_, _, _, _, _]) dX10_tape_65 (by decide) rfl ?_
              first
                | (have hq := qm hin.1 c32
                   have ff : ∀ u1 u2, frS S (fun b => b = m + 13 ∨ b = m + 14 ∨ b = m + 16 + t) (zsa (zsa S (m + 13) t u1) (m + 14) t u2) := fun u1 u2 => (frS.seta (Or.inl rfl)).trans (frS.seta (Or.inr (Or.inl rfl)))
                   refine main t 0 ht rfl (by decide) (fun S' g1 g2 => h1 t S' ht rfl hq g1 (by rw [← hq]; exact g2)) 60 0 _ rfl (Nat.zero_le _) (ff _ _) ⟨(zup_ne (by omega)).trans zup_same, zup_same⟩ (fun u hu e => ⟨(zup_ne (by omega)).trans (zup_ne (by omega)), (zup_ne (by omega)).trans (zup_ne (by omega))⟩) (fun j hj => absurd hj (Nat.not_lt_zero _)))
                | (obtain ⟨k, hk, hq⟩ := rg_t (by decide) (q5 hin c32)
                   obtain ⟨n, hn, rfl⟩ := nI_of (Int32.not_lt.mpr c36)
                   have hn60 := i_le (b := 60) hn (by decide) c25
                   have ff : ∀ u1 u2, frS S (fun b => b = m + 13 ∨ b = m + 14 ∨ b = m + 16 + t) (zsa (zsa S (m + 13) t u1) (m + 14) t u2) := fun u1 u2 => (frS.seta (Or.inl rfl)).trans (frS.seta (Or.inr (Or.inl rfl)))
                   refine main t n ht rfl hn60 (fun S' g1 g2 => h2 t k n S' ht rfl hk hq hn60 rfl g1 (by rw [← hq]; exact g2)) 60 0 _ rfl (Nat.zero_le _) (ff _ _) ⟨(zup_ne (by omega)).trans zup_same, zup_same⟩ (fun u hu e => ⟨(zup_ne (by omega)).trans (zup_ne (by omega)), (zup_ne (by omega)).trans (zup_ne (by omega))⟩) (fun j hj => absurd hj (Nat.not_lt_zero _)))
                | exact absurd c32 (Int32.not_lt.mpr c55)
                | exact absurd (Int32.not_lt.mp c32) c55
                | exact absurd c19 (Int32.not_lt.mpr c55)
                | exact absurd c19 c32
                | exact absurd c32 c19
                | skip
          · refine z_iload_n dX10_tape_35 rfl ?_
            refine z_if_ge 42 dX10_tape_36 (by decide) (fun c36 => ?_) (fun c36 => ?_)
            · obtain ⟨t, ht, rfl⟩ := rg_t (by decide) (zo_ne0.mp c4)
              refine z_aload_n dX10_tape_42 rfl ?_
              refine s_getr f_Mo_48 dX10_tape_43 (by assumption) rfl ?_
              refine z_iload_n dX10_tape_46 rfl ?_
              refine z_iload_n dX10_tape_47 rfl ?_
              refine s_iast dX10_tape_48 a13 (vp_in_nI ht (by decide)) ?_
              rw [nI_clamp (by omega)]
              refine z_aload_n dX10_tape_49 rfl ?_
              refine s_getr f_Mo_51 dX10_tape_50 (by assumption) rfl ?_
              refine z_iload_n dX10_tape_53 rfl ?_
              refine z_iload_n dX10_tape_54 rfl ?_
              refine z_if_ge 62 dX10_tape_55 (by decide) (fun c55 => ?_) (fun c55 => ?_)
              · refine z_iload_n dX10_tape_62 rfl ?_
                refine s_iast dX10_tape_63 a14 (vp_in_nI ht (by decide)) ?_
                rw [nI_clamp (by omega)]
                refine z_iconst 0 dX10_tape_64 rfl ?_
                refine z_istore (lv' := [_, _, _, _, _]) dX10_tape_65 (by decide) rfl ?_
                first
                  | (have hq := qm hin.1 c32
                     have ff : ∀ u1 u2, frS S (fun b => b = m + 13 ∨ b = m + 14 ∨ b = m + 16 + t) (zsa (zsa S (m + 13) t u1) (m + 14) t u2) := fun u1 u2 => (frS.seta (Or.inl rfl)).trans (frS.seta (Or.inr (Or.inl rfl)))
                     refine main t 0 ht rfl (by decide) (fun S' g1 g2 => h1 t S' ht rfl hq g1 (by rw [← hq]; exact g2)) 60 0 _ rfl (Nat.zero_le _) (ff _ _) ⟨(zup_ne (by omega)).trans zup_same, zup_same⟩ (fun u hu e => ⟨(zup_ne (by omega)).trans (zup_ne (by omega)), (zup_ne (by omega)).trans (zup_ne (by omega))⟩) (fun j hj => absurd hj (Nat.not_lt_zero _)))
                  | (obtain ⟨k, hk, hq⟩ := rg_t (by decide) (q5 hin c32)
                     obtain ⟨n, hn, rfl⟩ := nI_of (Int32.not_lt.mpr c36)
                     have hn60 := i_le (b := 60) hn (by decide) c25
                     have ff : ∀ u1 u2, frS S (fun b => b = m + 13 ∨ b = m + 14 ∨ b = m + 16 + t) (zsa (zsa S (m + 13) t u1) (m + 14) t u2) := fun u1 u2 => (frS.seta (Or.inl rfl)).trans (frS.seta (Or.inr (Or.inl rfl)))
                     refine main t n ht rfl hn60 (fun S' g1 g2 => h2 t k n S' ht rfl hk hq hn60 rfl g1 (by rw [← hq]; exact g2)) 60 0 _ rfl (Nat.zero_le _) (ff _ _) ⟨(zup_ne (by omega)).trans zup_same, zup_same⟩ (fun u hu e => ⟨(zup_ne (by omega)).trans (zup_ne (by omega)), (zup_ne (by omega)).trans (zup_ne (by omega))⟩) (fun j hj => absurd hj (Nat.not_lt_zero _)))
                  | exact absurd c32 (Int32.not_lt.mpr c55)
                  | exact absurd (Int32.not_lt.mp c32) c55
                  | exact absurd c19 (Int32.not_lt.mpr c55)
                  | exact absurd c19 c32
                  | exact absurd c32 c19
                  | skip
              · refine z_iconst 0 dX10_tape_58 rfl ?_
                refine z_goto 63 dX10_tape_59 (by decide) ?_
                refine s_iast dX10_tape_63 a14 (vp_in_nI ht (by decide)) ?_
                rw [nI_clamp (by omega)]
                refine z_iconst 0 dX10_tape_64 rfl ?_
                refine z_istore (lv' := [_, _, _, _, _]) dX10_tape_65 (by decide) rfl ?_
                first
                  | (have hq := qm hin.1 c32
                     have ff : ∀ u1 u2, frS S (fun b => b = m + 13 ∨ b = m + 14 ∨ b = m + 16 + t) (zsa (zsa S (m + 13) t u1) (m + 14) t u2) := fun u1 u2 => (frS.seta (Or.inl rfl)).trans (frS.seta (Or.inr (Or.inl rfl)))
                     refine main t 0 ht rfl (by decide) (fun S' g1 g2 => h1 t S' ht rfl hq g1 (by rw [← hq]; exact g2)) 60 0 _ rfl (Nat.zero_le _) (ff _ _) ⟨(zup_ne (by omega)).trans zup_same, zup_same⟩ (fun u hu e => ⟨(zup_ne (by omega)).trans (zup_ne (by omega)), (zup_ne (by omega)).trans (zup_ne (by omega))⟩) (fun j hj => absurd hj (Nat.not_lt_zero _)))
                  | (obtain ⟨k, hk, hq⟩ := rg_t (by decide) (q5 hin c32)
                     obtain ⟨n, hn, rfl⟩ := nI_of (Int32.not_lt.mpr c36)
                     have hn60 := i_le (b := 60) hn (by decide) c25
                     have ff : ∀ u1 u2, frS S (fun b => b = m + 13 ∨ b = m + 14 ∨ b = m + 16 + t) (zsa (zsa S (m + 13) t u1) (m + 14) t u2) := fun u1 u2 => (frS.seta (Or.inl rfl)).trans (frS.seta (Or.inr (Or.inl rfl)))
                     refine main t n ht rfl hn60 (fun S' g1 g2 => h2 t k n S' ht rfl hk hq hn60 rfl g1 (by rw [← hq]; exact g2)) 60 0 _ rfl (Nat.zero_le _) (ff _ _) ⟨(zup_ne (by omega)).trans zup_same, zup_same⟩ (fun u hu e => ⟨(zup_ne (by omega)).trans (zup_ne (by omega)), (zup_ne (by omega)).trans (zup_ne (by omega))⟩) (fun j hj => absurd hj (Nat.not_lt_zero _)))
                  | exact absurd c32 (Int32.not_lt.mpr c55)
                  | exact absurd (Int32.not_lt.mp c32) c55
                  | exact absurd c19 (Int32.not_lt.mpr c55)
                  | exact absurd c19 c32
                  | exact absurd c32 c19
                  | skip
            · refine z_bipush (-14) dX10_tape_39 (by decide) ?_
              refine z_ireturn dX10_tape_41 rfl rfl ⟨Nat.le_refl _, Nat.le_refl _⟩ ?_
              exact ⟨rfl, _, rfl, hs (zo_ne0.mp c4) (q5 hin c32) (Int32.not_le.mp c36)⟩
        · refine z_bipush (-2) dX10_tape_28 (by decide) ?_
          refine z_ireturn dX10_tape_30 rfl rfl ⟨Nat.le_refl _, Nat.le_refl _⟩ ?_
          first
            | exact ⟨rfl, _, rfl, hb (zo_ne0.mp c4) (fun z => zoT (decide_eq_true (by rw [z]; decide)) c15) (fun z => zoT (decide_eq_true ⟨Int32.le_trans (show (-1 : Int32) ≤ 0 by decide) (of_decide_eq_true z.1).1, by
                obtain ⟨j, hj, rfl⟩ := rg_t (by decide) z.1
                exact nI_le (b := 4) (by omega) (by decide)⟩) c15)⟩
            | exact ⟨rfl, _, rfl, hb (zo_ne0.mp c4) (fun z => c19 (by rw [z]; decide)) (fun z => c25 z.2)⟩
            | skip
  · refine z_iconst (-1) dX10_tape_7 rfl ?_
    refine z_ireturn dX10_tape_8 rfl rfl ⟨Nat.le_refl _, Nat.le_refl _⟩ ?_
    exact ⟨rfl, _, rfl, h0 (fun q => zoT q c4)⟩
theorem C_Mo_item {p q : Int32} {y : Int64} (hM : tMo sh m) (hR : rMo S m w) (hW : wOK w) (h0 : ¬ rg p 6 = true → P (some (.int (-1))) S)
    (h1 : ∀ t, t < 6 → p = nI t → wts w t = -1 → P (some (.int (-11))) S) (hb : ∀ t, t < 6 → p = nI t → ¬ wts w t = -1 → ¬ rg q (wtz w t) = true → P (some (.int (-13))) S)
    (h2 : ∀ t k i S', t < 6 → p = nI t → k < 5 → wts w t = nI k → i < wtz w t → q = nI i → frS S (inM m) S' → rMo S' m (wTape w t (wts w t, wtz w t, lset (wti w t) i (fitv k y))) → P (some (.int 1)) S') : zR G m_Mo_item 3 sh [.ref m, .int p, .int q, .long y] S P := by
  obtain ⟨m0, a1, a2, a3, a4, a5, a6, a7, a8, a9, a10, a11, a12, a13, a14, a15, a16, a22⟩ := id hM
  obtain ⟨k1, k2, k3, ⟨k4, kr⟩, ⟨kL, ktx⟩, kt⟩ := id hR
  obtain ⟨g0, gi, ⟨g2, g2q⟩, ⟨g3, g3x⟩, g4⟩ := id hW
  obtain ⟨⟨b1, b2, b3, b4, b5⟩, ⟨e1, e2, e3, e4, e5⟩, eV, eM, eMo, eS, eB⟩ := id g0
  have hv : ∀ j, j < aN (wA w) → ∀ c, c < 4 → aV (wA w) j c < 16 := fun j hj c hc => (eV j hj c hc).2
  refine s_meth 0 ⟨p_Mo, rfl, Nat.le_of_ble_eq_true rfl⟩ rfl (fun sz => ?_)
  refine z_iload_n dX10_item_0 rfl ?_
  refine s_callS1 l_Mo_195 (C_Mo_isTape) dX10_item_1 rfl rfl (Nat.le_of_ble_eq_true rfl) ⟨⟨by decide, by decide⟩, by decide, by decide⟩ ?_
  refine z_if_ne 9 dX10_item_4 (by decide) (fun c4 => ?_) (fun c4 => ?_)
  · obtain ⟨t, ht, rfl⟩ := rg_t (by decide) (zo_ne0.mp c4)
    have hO := g4 t ht
    obtain ⟨w1, w2, w3⟩ := kt t ht
    have hz60 : wtz w t ≤ 60 := hO.2.1
    refine z_aload_n dX10_item_9 rfl ?_
    refine s_getr f_Mo_48 dX10_item_10 (by assumption) rfl ?_
    refine z_iload_n dX10_item_13 rfl ?_
    refine s_iald dX10_item_14 a13 (vp_in_nI ht (by decide)) ?_
    rw [nI_clamp (by omega), w1]
    refine z_if_ge 21 dX10_item_15 (by decide) (fun c15 => ?_) (fun c15 => ?_)
    · have hn : ¬ wts w t = -1 := fun q => by rw [q] at c15; exact absurd c15 (by decide)
      obtain ⟨k, hk5, hk⟩ : ∃ k, k < 5 ∧ wts w t = nI k := hO.1.resolve_left (fun q => hn q.1)
      refine z_iload_n dX10_item_21 rfl ?_
      refine z_iconst 0 dX10_item_22 rfl ?_
      refine z_aload_n dX10_item_23 rfl ?_
      refine s_getr f_Mo_51 dX10_item_24 (by assumption) rfl ?_
      refine z_iload_n dX10_item_27 rfl ?_
      refine s_iald dX10_item_28 a14 (vp_in_nI ht (by decide)) ?_
      rw [nI_clamp (by omega), w2]
      refine z_iconst 1 dX10_item_29 rfl ?_
      refine z_isub dX10_item_30 ?_
      refine s_callS1 l_Mo_63 (C_Mo_in0 (n := wtz w t) rfl (by omega)) dX10_item_31 rfl rfl (Nat.le_of_ble_eq_true rfl) ⟨⟨by decide, by decide⟩, by decide, by decide⟩ ?_
      refine z_if_ne 40 dX10_item_34 (by decide) (fun c34 => ?_) (fun c34 => ?_)
      · obtain ⟨i, hi, rfl⟩ := rg_t (by omega) (zo_ne0.mp c34)
        refine z_aload_n dX10_item_40 rfl ?_
        refine s_getr f_Mo_56 dX10_item_41 (by assumption) rfl ?_
        refine z_iload_n dX10_item_44 rfl ?_
        refine s_aald (by decide) dX10_item_45 a15 (vp_in_nI ht (by decide)) (by rw [nI_clamp (by omega)]; exact if_pos ht) ?_
        refine z_iload_n dX10_item_46 rfl ?_
        refine z_aload_n dX10_item_47 rfl ?_
        refine s_getr f_Mo_48 dX10_item_48 (by assumption) rfl ?_
        refine z_iload_n dX10_item_51 rfl ?_
        refine s_iald dX10_item_52 a13 (vp_in_nI ht (by decide)) ?_
        rw [nI_clamp (by omega), w1, hk]
        refine z_lload_n dX10_item_53 rfl ?_
        refine s_callS1 l_Mo_202 (C_Mo_fit hk5) dX10_item_54 rfl rfl (Nat.le_of_ble_eq_true rfl) ⟨⟨by decide, by decide⟩, by decide, by decide⟩ ?_
        refine s_last dX10_item_57 (a16 t ht) (vp_in_nI (by omega) (by decide)) ?_
        rw [nI_clamp (by omega)]
        refine z_iconst 1 dX10_item_58 rfl ?_
        refine z_ireturn dX10_item_59 rfl rfl ⟨Nat.le_refl _, Nat.le_refl _⟩ ?_
        have f2 : frS S (fun b => b = m + 16 + t) (zsj S (m + 16 + t) i (fitv k y)) := frS.setj rfl
        refine ⟨rfl, _, rfl, h2 t k i _ ht rfl hk5 hk hi rfl (f2.weaken (fun b hb => by unfold inM; omega)) (hR.tape f2 ht (fun b b1 b2 b3 b4 b5 b6 => by omega) (fun u hu e => ⟨rfl, rfl⟩) ⟨w1, w2, fun j hj => ?_⟩)⟩
        by_cases e : j = i
        · subst e; exact zup_same.trans lset_s.symm
        · exact (zup_ne (fun q => e q.2)).trans ((w3 j hj).trans (lset_n e).symm)
      · refine z_bipush (-13) dX10_item_37 (by decide) ?_
        refine z_ireturn dX10_item_39 rfl rfl ⟨Nat.le_refl _, Nat.le_refl _⟩ ?_
        exact ⟨rfl, _, rfl, hb t ht rfl hn (fun q => zoT q c34)⟩
    · have hn : wts w t = -1 := by
        rcases hO.1 with ⟨q, -⟩ | ⟨k, hk5, hk⟩
        · exact q
        · have hk : wts w t = nI k := hk
          rw [hk] at c15
          exact absurd (nI_pos' (by omega)) c15
      refine z_bipush (-11) dX10_item_18 (by decide) ?_
      refine z_ireturn dX10_item_20 rfl rfl ⟨Nat.le_refl _, Nat.le_refl _⟩ ?_
      exact ⟨rfl, _, rfl, h1 t ht rfl hn⟩
  · refine z_iconst (-1) dX10_item_7 rfl ?_
    refine z_ireturn dX10_item_8 rfl rfl ⟨Nat.le_refl _, Nat.le_refl _⟩ ?_
    exact ⟨rfl, _, rfl, h0 (fun q => zoT q c4)⟩
theorem C_Mo_read {p q : Int32} (hM : tMo sh m) (hR : rMo S m w) (hW : wOK w) (h0 : (∀ t, t < 6 → p = nI t → ¬ rg q (wtz w t) = true) → P (some (.long (-9223372036854775808))) S)
    (h2 : ∀ t i, t < 6 → p = nI t → i < wtz w t → q = nI i → P (some (.long (wti w t i))) S) : zR G m_Mo_read 3 sh [.ref m, .int p, .int q] S P := by
  obtain ⟨m0, a1, a2, a3, a4, a5, a6, a7, a8, a9, a10, a11, a12, a13, a14, a15, a16, a22⟩ := id hM
  obtain ⟨k1, k2, k3, ⟨k4, kr⟩, ⟨kL, ktx⟩, kt⟩ := id hR
  obtain ⟨g0, gi, ⟨g2, g2q⟩, ⟨g3, g3x⟩, g4⟩ := id hW
  obtain ⟨⟨b1, b2, b3, b4, b5⟩, ⟨e1, e2, e3, e4, e5⟩, eV, eM, eMo, eS, eB⟩ := id g0
  have hv : ∀ j, j < aN (wA w) → ∀ c, c < 4 → aV (wA w) j c < 16 := fun j hj c hc => (eV j hj c hc).2
  refine s_meth 0 ⟨p_Mo, rfl, Nat.le_of_ble_eq_true rfl⟩ rfl (fun sz => ?_)
  refine z_iload_n dX10_read_0 rfl ?_
  refine s_callS1 l_Mo_195 (C_Mo_isTape) dX10_read_1 rfl rfl (Nat.le_of_ble_eq_true rfl) ⟨⟨by decide, by decide⟩, by decide, by decide⟩ ?_
  refine z_if_eq 43 dX10_read_4 (by decide) (fun c4 => ?_) (fun c4 => ?_)
  · have hno : ∀ t, t < 6 → p = nI t → ¬ rg q (wtz w t) = true := fun t ht e => by
      subst e
      exact (zoT (rg_n ht (by decide)) c4).elim
    refine z_ldc2 (-9223372036854775808) v_Mo_182 dX10_read_43 ?_
    refine z_lreturn dX10_read_46 rfl ⟨Nat.le_refl _, Nat.le_refl _⟩ ?_
    first
      | exact ⟨rfl, _, rfl, hA⟩
      | exact ⟨rfl, _, rfl, h0 hno⟩
      | skip
  · obtain ⟨t, ht, rfl⟩ := rg_t (by decide) (zo_ne0.mp c4)
    have hO := g4 t ht
    obtain ⟨w1, w2, w3⟩ := kt t ht
    have hz60 : wtz w t ≤ 60 := hO.2.1
    refine z_aload_n dX10_read_7 rfl ?_
    refine s_getr f_Mo_48 dX10_read_8 (by assumption) rfl ?_
    refine z_iload_n dX10_read_11 rfl ?_
    refine s_iald dX10_read_12 a13 (vp_in_nI ht (by decide)) ?_
    rw [nI_clamp (by omega), w1]
    refine z_if_lt 43 dX10_read_13 (by decide) (fun c13 => ?_) (fun c13 => ?_)
    · have hz : wtz w t = 0 := by
        rcases hO.1 with ⟨-, q⟩ | ⟨k, hk5, hk⟩
        · exact q
        · have hk : wts w t = nI k := hk
          rw [hk] at c13
          exact absurd c13 (nI_pos (by omega))
      have hno : ∀ u, u < 6 → nI t = nI u → ¬ rg q (wtz w u) = true := fun u hu e => by
        rw [← (nI_eq (by omega) (by omega)).mp e, hz]
        intro z
        obtain ⟨j, hj, -⟩ := rg_t (by decide) z
        omega
      refine z_ldc2 (-9223372036854775808) v_Mo_182 dX10_read_43 ?_
      refine z_lreturn dX10_read_46 rfl ⟨Nat.le_refl _, Nat.le_refl _⟩ ?_
      first
        | exact ⟨rfl, _, rfl, hA⟩
        | exact ⟨rfl, _, rfl, h0 hno⟩
        | skip
    · refine z_iload_n dX10_read_16 rfl ?_
      refine z_iconst 0 dX10_read_17 rfl ?_
      refine z_aload_n dX10_read_18 rfl ?_
      refine s_getr f_Mo_51 dX10_read_19 (by assumption) rfl ?_
      refine z_iload_n dX10_read_22 rfl ?_
      refine s_iald dX10_read_23 (by assumption) (by first | assumption | exact vp_in_nI (by omega) (by omega) | (unfold vp_in; decide)) ?_
      rw [nI_clamp (by omega), w2]
      refine z_iconst 1 dX10_read_24 rfl ?_
      refine z_isub dX10_read_25 ?_
      refine s_callS1 l_Mo_63 (C_Mo_in0 (n := wtz w t) rfl (by omega)) dX10_read_26 rfl rfl (Nat.le_of_ble_eq_true rfl) ⟨⟨by decide, by decide⟩, by decide, by decide⟩ ?_
      refine z_if_eq 43 dX10_read_29 (by decide) (fun c29 => ?_) (fun c29 => ?_)
      · have hno : ∀ u, u < 6 → nI t = nI u → ¬ rg q (wtz w u) = true := fun u hu e => by
          rw [← (nI_eq (by omega) (by omega)).mp e]
          exact fun q => zoT q c29
        refine z_ldc2 (-9223372036854775808) v_Mo_182 dX10_read_43 ?_
        refine z_lreturn dX10_read_46 rfl ⟨Nat.le_refl _, Nat.le_refl _⟩ ?_
        first
          | exact ⟨rfl, _, rfl, hA⟩
          | exact ⟨rfl, _, rfl, h0 hno⟩
          | skip
      · obtain ⟨i, hi, rfl⟩ := rg_t (by omega) (zo_ne0.mp c29)
        have hA := h2 t i ht rfl hi rfl
        have e3 := w3 i (by omega)
        refine z_aload_n dX10_read_32 rfl ?_
        refine s_getr f_Mo_56 dX10_read_33 (by assumption) rfl ?_
        refine z_iload_n dX10_read_36 rfl ?_
        refine s_aald (by decide) dX10_read_37 a15 (vp_in_nI ht (by decide)) (by rw [nI_clamp (by omega)]; exact if_pos ht) ?_
        refine z_iload_n dX10_read_38 rfl ?_
        refine s_lald dX10_read_39 (a16 t ht) (vp_in_nI (by omega) (by decide)) ?_
        rw [nI_clamp (by omega), e3]
        refine z_goto 46 dX10_read_40 (by decide) ?_
        refine z_lreturn dX10_read_46 rfl ⟨Nat.le_refl _, Nat.le_refl _⟩ ?_
        first
          | exact ⟨rfl, _, rfl, hA⟩
          | exact ⟨rfl, _, rfl, h0 hno⟩
          | skip
end MOD

