/-! ===== the model: two, odds, means, ends, books, judging, shifts ===== -/
section MOG
variable {G : zG} {sh : Nat → Option zSh} {S : zSt} {m n c k j a b i q N : Nat} {w : Wd} {v : Nat → Nat → Nat} {nd : Nd} {stk : Nat → List Nat} {P : Option Value → zSt → Prop}
theorem C_Mo_two {p r s : Int32} (hM : tMo sh m) (hR : rMo S m w) (hW : wOK w) (h0 : ¬ (rg p (wq w) = true ∧ rg r (wq w) = true ∧ rg s 5 = true) → P (some (.int (-1))) S)
    (h1 : ∀ k l i, k < wq w → p = nI k → l < wq w → r = nI l → i < 5 → s = nI i → P (some (.int (twA w k l i))) S) : zR G m_Mo_two 60 sh [.ref m, .int p, .int r, .int s] S P := by
  obtain ⟨m0, a1, a2, a3, a4, a5, a6, a7, a8, a9, a10, a11, a12, a13, a14, a15, a16, a22⟩ := id hM
  obtain ⟨k1, k2, k3, ⟨k4, kr⟩, ⟨kL, ktx⟩, kt⟩ := id hR
  obtain ⟨g0, gi, ⟨g2, g2q⟩, ⟨g3, g3x⟩, g4⟩ := id hW
  obtain ⟨⟨b1, b2, b3, b4, b5⟩, ⟨e1, e2, e3, e4, e5⟩, eV, eM, eMo, eS, eB⟩ := id g0
  have hv : ∀ j, j < aN (wA w) → ∀ c, c < 4 → aV (wA w) j c < 16 := fun j hj c hc => (eV j hj c hc).2
  have gr := hR.gr hW
  refine s_meth 6 ⟨p_Mo, rfl, Nat.le_of_ble_eq_true rfl⟩ rfl (fun sz => ?_)
  have loop : ∀ k l e, k < wq w → p = nI k → l < wq w → r = nI l → e < 5 → s = nI e → ∀ d t z8 z9, aN (wA w) - t = d → t ≤ aN (wA w) → zW G m_Mo_two (zRm 60 0 0) (zFm G (zP sh sz P) 0 0) 0 0 39 [some (.ref m), some (.int p), some (.int r), some (.int s), some (.int (nI (fb_ct (bothF (qI w k).1 (qI w l).1) t))), some (.int (nI (fb_ct (oneF (qI w k).1 (qI w l).1) t))), some (.int (nI (fb_ct (oneF (qI w l).1 (qI w k).1) t))), some (.int (nI t)), z8, z9] [] (zhp sh S) sz := by
    intro k l e hk hp hl hr he hs d
    have hA := h1 k l e hk hp hl hr he hs
    subst hp
    subst hr
    subst hs
    have ik : ∀ t, t < 5 → nI e = nI t → e = t := fun t ht h => (nI_eq (by omega) (by omega)).mp h
    induction d with
    | zero =>
      intro t z8 z9 g1 g2
      have ht : t = aN (wA w) := by omega
      subst ht
      have l2 := fb_ct_le (oneF (qI w k).1 (qI w l).1) (aN (wA w))
      have l3 := fb_ct_le (oneF (qI w l).1 (qI w k).1) (aN (wA w))
      refine z_iload dX10_two_39 rfl ?_
      refine z_aload_n dX10_two_41 rfl ?_
      refine s_getr f_Mo_11 dX10_two_42 (by assumption) rfl ?_
      refine z_sipush 480 dX10_two_45 (by decide) ?_
      refine s_iald dX10_two_48 (by assumption) (by first | assumption | exact vp_in_nI (by omega) (by omega) | (unfold vp_in; decide)) ?_
      rw [show (480 : Int32).toNatClampNeg = 480 from rfl, gr.1]
      refine z_icmp_ge 146 dX10_two_49 (by decide) (fun c49 => ?_) (fun c49 => ?_)
      · refine z_iload_n dX10_two_146 rfl ?_
        refine z_table 0 [176, 179, 188, 191] 205 dX10_two_147 (by decide) ⟨fun c147 => ?_, fun c147 => ?_, fun c147 => ?_, fun c147 => ?_, trivial⟩ (fun c147 => ?_)
        · have e0 := ik 0 (by decide) c147
          refine z_iload dX10_two_176 rfl ?_
          refine z_ireturn dX10_two_178 rfl rfl ⟨Nat.le_refl _, Nat.le_refl _⟩ ?_
          subst e0
          exact ⟨rfl, _, rfl, hA⟩
        · have e0 := ik 1 (by decide) c147
          refine z_iload dX10_two_179 rfl ?_
          refine z_iload dX10_two_181 rfl ?_
          refine z_iadd dX10_two_183 ?_
          refine z_iload dX10_two_184 rfl ?_
          refine z_iadd dX10_two_186 ?_
          rw [nI_add, nI_add]
          refine z_ireturn dX10_two_187 rfl rfl ⟨Nat.le_refl _, Nat.le_refl _⟩ ?_
          subst e0
          exact ⟨rfl, _, rfl, hA⟩
        · have e0 := ik 2 (by decide) c147
          refine z_iload dX10_two_188 rfl ?_
          refine z_ireturn dX10_two_190 rfl rfl ⟨Nat.le_refl _, Nat.le_refl _⟩ ?_
          subst e0
          exact ⟨rfl, _, rfl, hA⟩
        · have e0 := ik 3 (by decide) c147
          subst e0
          have hA : P (some (.int (if fb_ct (oneF (qI w k).1 (qI w l).1) (aN (wA w)) + fb_ct (oneF (qI w l).1 (qI w k).1) (aN (wA w)) = 0 then 1 else 0))) S := hA
          refine z_iload dX10_two_191 rfl ?_
          refine z_iload dX10_two_193 rfl ?_
          refine z_iadd dX10_two_195 ?_
          rw [nI_add]
          refine z_if_ne 203 dX10_two_196 (by decide) (fun c196 => ?_) (fun c196 => ?_)
          · rw [if_neg (fun q => c196 (by rw [q]; rfl))] at hA
            refine z_iconst 0 dX10_two_203 rfl ?_
            refine z_ireturn dX10_two_204 rfl rfl ⟨Nat.le_refl _, Nat.le_refl _⟩ ?_
            exact ⟨rfl, _, rfl, hA⟩
          · rw [if_pos ((nI_eq (b := 0) (by omega) (by decide)).mp c196)] at hA
            refine z_iconst 1 dX10_two_199 rfl ?_
            refine z_goto 204 dX10_two_200 (by decide) ?_
            refine z_ireturn dX10_two_204 rfl rfl ⟨Nat.le_refl _, Nat.le_refl _⟩ ?_
            exact ⟨rfl, _, rfl, hA⟩
        · have e0 : e = 4 := by
            rcases Nat.lt_or_ge e 4 with z | z
            · exact absurd rfl (c147 _ (Nat.zero_le _) z)
            · omega
          subst e0
          have hA : P (some (.int (if fb_ct (oneF (qI w k).1 (qI w l).1) (aN (wA w)) = 0 then 1 else 0))) S := hA
          refine z_iload dX10_two_205 rfl ?_
          refine z_if_ne 214 dX10_two_207 (by decide) (fun c207 => ?_) (fun c207 => ?_)
          · rw [if_neg (fun q => c207 (by rw [q]; rfl))] at hA
            refine z_iconst 0 dX10_two_214 rfl ?_
            refine z_ireturn dX10_two_215 rfl rfl ⟨Nat.le_refl _, Nat.le_refl _⟩ ?_
            exact ⟨rfl, _, rfl, hA⟩
          · rw [if_pos ((nI_eq (b := 0) (by omega) (by decide)).mp c207)] at hA
            refine z_iconst 1 dX10_two_210 rfl ?_
            refine z_goto 215 dX10_two_211 (by decide) ?_
            refine z_ireturn dX10_two_215 rfl rfl ⟨Nat.le_refl _, Nat.le_refl _⟩ ?_
            exact ⟨rfl, _, rfl, hA⟩
      · exact absurd (nI_le (Nat.le_refl _) (by omega)) c49
    | succ d ih =>
      intro t z8 z9 g1 g2
      have hQ := hR.mq hW hk
      have hQ2 := hR.mq hW hl
      have hN := g2q k hk
      have hN2 := g2q l hl
      have hN0 := hN.1
      have hN50 := hN.2.1
      have hM0 := hN2.1
      have hM50 := hN2.2.1
      have ih2 := ih (t + 1) (some (.int (zo ((qI w k).1 t)))) (some (.int (zo ((qI w l).1 t)))) (by omega) (by omega)
      rw [fb_ct_succ, fb_ct_succ, fb_ct_succ] at ih2
      generalize eA : (qI w k).1 t = A at ih2
      generalize eB : (qI w l).1 t = B at ih2
      rw [show bothF (qI w k).1 (qI w l).1 t = (A && B) by unfold bothF; rw [eA, eB], show oneF (qI w k).1 (qI w l).1 t = (A && !B) by unfold oneF; rw [eA, eB], show oneF (qI w l).1 (qI w k).1 t = (B && !A) by unfold oneF; rw [eA, eB]] at ih2
      have k137 : ∀ z : Nat, z = (if (B && !A) = true then 1 else 0) → zW G m_Mo_two (zRm 60 0 0) (zFm G (zP sh sz P) 0 0) 0 0 137 [some (.ref m), some (.int (nI k)), some (.int (nI l)), some (.int (nI e)), some (.int (nI (fb_ct (bothF (qI w k).1 (qI w l).1) t + if (A && B) = true then 1 else 0))), some (.int (nI (fb_ct (oneF (qI w k).1 (qI w l).1) t + if (A && !B) = true then 1 else 0))), some (.int (nI (fb_ct (oneF (qI w l).1 (qI w k).1) t))), some (.int (nI t)), some (.int (zo A)), some (.int (zo B))] [.int (nI z), .int (nI (fb_ct (oneF (qI w l).1 (qI w k).1) t))] (zhp sh S) sz := by
        intro z hz
        refine z_iadd dX10_two_137 ?_
        refine z_istore (lv' := [_, _, _, _, _, _, _, _, _, _]) dX10_two_138 (by decide) rfl ?_
        refine z_iinc (lv' := [_, _, _, _, _, _, _, _, _, _]) 1 dX10_two_140 rfl (by decide) rfl rfl ?_
        refine z_goto 39 dX10_two_143 (by decide) ?_
        rw [nI_1, nI_add, hz]
        exact ih2
      have k117 : ∀ z : Nat, z = (if (A && !B) = true then 1 else 0) → zW G m_Mo_two (zRm 60 0 0) (zFm G (zP sh sz P) 0 0) 0 0 117 [some (.ref m), some (.int (nI k)), some (.int (nI l)), some (.int (nI e)), some (.int (nI (fb_ct (bothF (qI w k).1 (qI w l).1) t + if (A && B) = true then 1 else 0))), some (.int (nI (fb_ct (oneF (qI w k).1 (qI w l).1) t))), some (.int (nI (fb_ct (oneF (qI w l).1 (qI w k).1) t))), some (.int (nI t)), some (.int (zo A)), some (.int (zo B))] [.int (nI z), .int (nI (fb_ct (oneF (qI w k).1 (qI w l).1) t))] (zhp sh S) sz := by
        intro z hz
        refine z_iadd dX10_two_117 ?_
        rw [nI_add, hz]
        refine z_istore (lv' := [_, _, _, _, _, _, _, _, _, _]) dX10_two_118 (by decide) rfl ?_
        refine z_iload dX10_two_120 rfl ?_
        refine z_iload dX10_two_122 rfl ?_
        refine z_if_eq 136 dX10_two_124 (by decide) (fun c124 => ?_) (fun c124 => ?_)
        · have hz2 : 0 = (if (B && !A) = true then 1 else 0) := by rw [zo_eq0.mp c124]; rfl
          refine z_iconst 0 dX10_two_136 rfl ?_
          exact k137 _ hz2
        · refine z_iload dX10_two_127 rfl ?_
          refine z_if_ne 136 dX10_two_129 (by decide) (fun c129 => ?_) (fun c129 => ?_)
          · have hz2 : 0 = (if (B && !A) = true then 1 else 0) := by rw [zo_ne0.mp c129]; cases B <;> rfl
            refine z_iconst 0 dX10_two_136 rfl ?_
            exact k137 _ hz2
          · have hz2 : 1 = (if (B && !A) = true then 1 else 0) := by rw [zo_eq0.mp c129, zo_ne0.mp c124]; rfl
            refine z_iconst 1 dX10_two_132 rfl ?_
            refine z_goto 137 dX10_two_133 (by decide) ?_
            exact k137 _ hz2
      have k97 : ∀ z : Nat, z = (if (A && B) = true then 1 else 0) → zW G m_Mo_two (zRm 60 0 0) (zFm G (zP sh sz P) 0 0) 0 0 97 [some (.ref m), some (.int (nI k)), some (.int (nI l)), some (.int (nI e)), some (.int (nI (fb_ct (bothF (qI w k).1 (qI w l).1) t))), some (.int (nI (fb_ct (oneF (qI w k).1 (qI w l).1) t))), some (.int (nI (fb_ct (oneF (qI w l).1 (qI w k).1) t))), some (.int (nI t)), some (.int (zo A)), some (.int (zo B))] [.int (nI z), .int (nI (fb_ct (bothF (qI w k).1 (qI w l).1) t))] (zhp sh S) sz := by
        intro z hz
        refine z_iadd dX10_two_97 ?_
        rw [nI_add, hz]
        refine z_istore (lv' := [_, _, _, _, _, _, _, _, _, _]) dX10_two_98 (by decide) rfl ?_
        refine z_iload dX10_two_100 rfl ?_
        refine z_iload dX10_two_102 rfl ?_
        refine z_if_eq 116 dX10_two_104 (by decide) (fun c104 => ?_) (fun c104 => ?_)
        · have hz2 : 0 = (if (A && !B) = true then 1 else 0) := by rw [zo_eq0.mp c104]; rfl
          refine z_iconst 0 dX10_two_116 rfl ?_
          exact k117 _ hz2
        · refine z_iload dX10_two_107 rfl ?_
          refine z_if_ne 116 dX10_two_109 (by decide) (fun c109 => ?_) (fun c109 => ?_)
          · have hz2 : 0 = (if (A && !B) = true then 1 else 0) := by rw [zo_ne0.mp c109]; cases A <;> rfl
            refine z_iconst 0 dX10_two_116 rfl ?_
            exact k117 _ hz2
          · have hz2 : 1 = (if (A && !B) = true then 1 else 0) := by rw [zo_eq0.mp c109, zo_ne0.mp c104]; rfl
            refine z_iconst 1 dX10_two_112 rfl ?_
            refine z_goto 117 dX10_two_113 (by decide) ?_
            exact k117 _ hz2
      refine z_iload dX10_two_39 rfl ?_
      refine z_aload_n dX10_two_41 rfl ?_
      refine s_getr f_Mo_11 dX10_two_42 (by assumption) rfl ?_
      refine z_sipush 480 dX10_two_45 (by decide) ?_
      refine s_iald dX10_two_48 (by assumption) (by first | assumption | exact vp_in_nI (by omega) (by omega) | (unfold vp_in; decide)) ?_
      rw [show (480 : Int32).toNatClampNeg = 480 from rfl, gr.1]
      refine z_icmp_ge 146 dX10_two_49 (by decide) (fun c49 => ?_) (fun c49 => ?_)
      · exact absurd c49 (nI_ge (by omega) (by omega))
      · refine z_aload_n dX10_two_52 rfl ?_
        refine z_aload_n dX10_two_53 rfl ?_
        refine s_getr f_Mo_21 dX10_two_54 (by assumption) rfl ?_
        refine z_iload_n dX10_two_57 rfl ?_
        refine s_iald dX10_two_58 a4 (vp_in_nI (by omega) (by decide)) ?_
        rw [nI_clamp (by omega), (kr k hk).1]
        refine z_iload dX10_two_59 rfl ?_
        refine s_callV1 l_Mo_146 (C_Mo_isSo hM hQ (by omega) (wN w k - 1) (by omega)) m0 dX10_two_61 rfl rfl (Nat.le_of_ble_eq_true rfl) (rrm (by omega) (by decide)) ?_
        rw [eA]
        refine z_istore (lv' := [_, _, _, _, _, _, _, _, _, _]) dX10_two_64 (by decide) rfl ?_
        refine z_aload_n dX10_two_66 rfl ?_
        refine z_aload_n dX10_two_67 rfl ?_
        refine s_getr f_Mo_21 dX10_two_68 (by assumption) rfl ?_
        refine z_iload_n dX10_two_71 rfl ?_
        refine s_iald dX10_two_72 a4 (vp_in_nI (by omega) (by decide)) ?_
        rw [nI_clamp (by omega), (kr l hl).1]
        refine z_iload dX10_two_73 rfl ?_
        refine s_callV1 l_Mo_146 (C_Mo_isSo hM hQ2 (by omega) (wN w l - 1) (by omega)) m0 dX10_two_75 rfl rfl (Nat.le_of_ble_eq_true rfl) (rrm (by omega) (by decide)) ?_
        rw [eB]
        refine z_istore (lv' := [_, _, _, _, _, _, _, _, _, _]) dX10_two_78 (by decide) rfl ?_
        refine z_iload dX10_two_80 rfl ?_
        refine z_iload dX10_two_82 rfl ?_
        refine z_if_eq 96 dX10_two_84 (by decide) (fun c84 => ?_) (fun c84 => ?_)
        · have hz2 : 0 = (if (A && B) = true then 1 else 0) := by rw [zo_eq0.mp c84]; rfl
          refine z_iconst 0 dX10_two_96 rfl ?_
          exact k97 _ hz2
        · refine z_iload dX10_two_87 rfl ?_
          refine z_if_eq 96 dX10_two_89 (by decide) (fun c89 => ?_) (fun c89 => ?_)
          · have hz2 : 0 = (if (A && B) = true then 1 else 0) := by rw [zo_eq0.mp c89]; cases A <;> rfl
            refine z_iconst 0 dX10_two_96 rfl ?_
            exact k97 _ hz2
          · have hz2 : 1 = (if (A && B) = true then 1 else 0) := by rw [zo_ne0.mp c89, zo_ne0.mp c84]; rfl
            refine z_iconst 1 dX10_two_92 rfl ?_
            refine z_goto 97 dX10_two_93 (by decide) ?_
            exact k97 _ hz2
  refine z_aload_n dX10_two_0 rfl ?_
  refine z_iload_n dX10_two_1 rfl ?_
  refine s_callV1 l_Mo_163 (C_Mo_isQuery hM k4 (by omega)) m0 dX10_two_2 rfl rfl (Nat.le_of_ble_eq_true rfl) (rrm (by omega) (by decide)) ?_
  refine z_if_eq 25 dX10_two_5 (by decide) (fun c5 => ?_) (fun c5 => ?_)
  · refine z_iconst (-1) dX10_two_25 rfl ?_
    refine z_ireturn dX10_two_26 rfl rfl ⟨Nat.le_refl _, Nat.le_refl _⟩ ?_
    first
      | exact ⟨rfl, _, rfl, h0 (fun q => zoT q.1 c5)⟩
      | exact ⟨rfl, _, rfl, h0 (fun q => zoT q.2.1 c13)⟩
      | exact ⟨rfl, _, rfl, h0 (fun q => zoT q.2.2 c22)⟩
      | skip
  · refine z_aload_n dX10_two_8 rfl ?_
    refine z_iload_n dX10_two_9 rfl ?_
    refine s_callV1 l_Mo_163 (C_Mo_isQuery hM k4 (by omega)) m0 dX10_two_10 rfl rfl (Nat.le_of_ble_eq_true rfl) (rrm (by omega) (by decide)) ?_
    refine z_if_eq 25 dX10_two_13 (by decide) (fun c13 => ?_) (fun c13 => ?_)
    · refine z_iconst (-1) dX10_two_25 rfl ?_
      refine z_ireturn dX10_two_26 rfl rfl ⟨Nat.le_refl _, Nat.le_refl _⟩ ?_
      first
        | exact ⟨rfl, _, rfl, h0 (fun q => zoT q.1 c5)⟩
        | exact ⟨rfl, _, rfl, h0 (fun q => zoT q.2.1 c13)⟩
        | exact ⟨rfl, _, rfl, h0 (fun q => zoT q.2.2 c22)⟩
        | skip
    · refine z_iload_n dX10_two_16 rfl ?_
      refine z_iconst 0 dX10_two_17 rfl ?_
      refine z_iconst 4 dX10_two_18 rfl ?_
      refine s_callS1 l_Mo_63 (C_Mo_in0 (n := 5) (by decide) (by decide)) dX10_two_19 rfl rfl (Nat.le_of_ble_eq_true rfl) (rrm (by omega) (by decide)) ?_
      refine z_if_ne 27 dX10_two_22 (by decide) (fun c22 => ?_) (fun c22 => ?_)
      · refine z_iconst 0 dX10_two_27 rfl ?_
        refine z_istore (lv' := [_, _, _, _, _, _, _, _, _, _]) dX10_two_28 (by decide) rfl ?_
        refine z_iconst 0 dX10_two_30 rfl ?_
        refine z_istore (lv' := [_, _, _, _, _, _, _, _, _, _]) dX10_two_31 (by decide) rfl ?_
        refine z_iconst 0 dX10_two_33 rfl ?_
        refine z_istore (lv' := [_, _, _, _, _, _, _, _, _, _]) dX10_two_34 (by decide) rfl ?_
        refine z_iconst 0 dX10_two_36 rfl ?_
        refine z_istore (lv' := [_, _, _, _, _, _, _, _, _, _]) dX10_two_37 (by decide) rfl ?_
        obtain ⟨k, hk, hp⟩ := rg_t (by omega) (zo_ne0.mp c5)
        obtain ⟨l, hl, hr⟩ := rg_t (by omega) (zo_ne0.mp c13)
        obtain ⟨e, he, hs⟩ := rg_t (by decide) (zo_ne0.mp c22)
        exact loop k l e hk hp hl hr he hs (aN (wA w)) 0 _ _ rfl (Nat.zero_le _)
      · refine z_iconst (-1) dX10_two_25 rfl ?_
        refine z_ireturn dX10_two_26 rfl rfl ⟨Nat.le_refl _, Nat.le_refl _⟩ ?_
        first
          | exact ⟨rfl, _, rfl, h0 (fun q => zoT q.1 c5)⟩
          | exact ⟨rfl, _, rfl, h0 (fun q => zoT q.2.1 c13)⟩
          | exact ⟨rfl, _, rfl, h0 (fun q => zoT q.2.2 c22)⟩
          | skip
end MOG

