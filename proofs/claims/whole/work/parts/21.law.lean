/-! ===== the law ===== -/
/-- what the law's end asks, of the law's own call alone -/
abbrev FL (G : zG) : zFin := fun s args below t => args = #[Value.ref (zb G)] → s.heap.size = zz G → lw_Z below args s t
theorem la_in {L t : Nat} (hL : L ≤ 3072) (ht : 6 * t ≤ L) (h : ¬ (Int32.ofNat L - 6 < nI (6 * t))) : 6 * t + 6 ≤ L := by
  have k0 : ∀ n, n < 6 → Int32.ofNat n - 6 < 0 := by decide
  by_cases h6 : 6 ≤ L
  · have e : Int32.ofNat L - 6 = nI (L - 6) := by
      have q := nI_add (L - 6) 6
      rw [show L - 6 + 6 = L by omega] at q
      show nI L - nI 6 = nI (L - 6)
      rw [← q, Int32.add_sub_cancel]
    rw [e] at h
    by_cases hlt : L - 6 < 6 * t
    · exact absurd (nI_lt hlt (by omega)) h
    · omega
  · exact absurd (Int32.lt_of_lt_of_le (k0 L (by omega)) (nI_pos' (by omega))) h
section LL
variable {G : zG} {n : String} {sh : Nat → Option zSh} {x m sz : Nat}
theorem la_v (t : Nat) (hL : zbL G ≤ 3072) (h : 6 * t + 6 ≤ zbL G) : vIn G t := fun j hj => by
  rw [nI_add]
  exact vp_in_nI (by omega) (by omega)
theorem la_end {cn sn pc : Nat} {lv : List (Option Value)} {ah : zH} (hc : cn ≤ 600000 ∧ sn ≤ 7302250) (hd : decode (zcd (MLaw n)) pc = .ok (.ireturn, 1)) : zW G (MLaw n) room_1 (FL G) cn sn pc lv [.int 1] ah sz := by
  intro p l e s m args below meth c H locs ls X hA hS hL T hT Y
  by_cases h : args = #[Value.ref (zb G)] ∧ s.heap.size = zz G
  · obtain ⟨rfl, hz⟩ := h
    have k0 : W p l e room_1 s m #[Value.ref (zb G)] below meth c H [] cn sn (lw_Z below #[Value.ref (zb G)] s) (F0 m pc ls [.int 1]) := W.widen hc.1 hc.2 (lw_ret X.1 X.2.1 X.2.2.1 X.2.2.2.2.2.2.1 hd)
    have k1 : W p l e room_1 s m #[Value.ref (zb G)] below meth c H locs cn sn (lw_Z below #[Value.ref (zb G)] s) (F0 m pc ls [.int 1]) := va_forget (fun q hq => by rw [hz]; exact hS.2.2 q hq) k0
    obtain ⟨t, a, b⟩ := k1 T hT Y
    exact ⟨t, a, fun _ _ => b⟩
  · exact ⟨_, Steps.refl _, fun h1 h2 => absurd ⟨h1, h2⟩ h⟩
theorem la_next {F : zFin} {S : zSt} {t : Nat} (ht : 6 * t + 6 < 2 ^ 31) (k : zW G (MLaw n) room_1 F 390 8337 18 (lvL G x m (t + 1)) [] (zhp sh S) sz) : zW G (MLaw n) room_1 F 390 8337 1207 (lvL G x m t) [] (zhp sh S) sz := by
  refine z_iinc (lv' := [_, _, _, _]) 6 dL_law_1207 rfl (Nat.le_of_ble_eq_true rfl) rfl rfl ?_
  refine z_goto 18 dL_law_1210 (by decide) ?_
  refine z_eq rfl ?_ rfl rfl k
  have e : nI (6 * t) + 6 = nI (6 * (t + 1)) := by rw [show (6 : Int32) = nI 6 from rfl, nI_add, show 6 * t + 6 = 6 * (t + 1) by omega]
  rw [e]
theorem la_loop (hx : tRC sh x) (hm : tMo sh m) (hd : m = x + 367) (hL : zbL G ≤ 3072) : ∀ (k t : Nat) (S : zSt) (w : Wd), 6 * t ≤ zbL G → zbL G < 6 * t + 6 * k → wOK w → rRC S x w → rMo S m w → zW G (MLaw n) room_1 (FL G) 390 8337 18 (lvL G x m t) [] (zhp sh S) sz := by
  intro k
  induction k with
  | zero =>
    intro t S w h1 h2
    omega
  | succ k ih =>
    intro t S w h1 h2 hW hR hM
    refine z_iload_n dL_law_18 rfl ?_
    refine z_aload_n dL_law_19 rfl ?_
    refine z_slen dL_law_20 ?_
    refine z_bipush 6 dL_law_21 (by decide) ?_
    refine z_isub dL_law_23 ?_
    refine z_icmp_gt 1213 dL_law_24 (by decide) (fun c24 => ?_) (fun c24 => ?_)
    · refine z_iconst 1 dL_law_1213 rfl ?_
      exact la_end ⟨Nat.le_of_ble_eq_true rfl, Nat.le_of_ble_eq_true rfl⟩ dL_law_1214
    · have g := la_in hL h1 c24
      have v := la_v t hL g
      have v0 : vp_in (nI (6 * t)) (zbL G) := vp_in_nI (by omega) (by omega)
      have kk : KK G n (FL G) sh x m t sz := fun S2 w2 hW2 hR2 hM2 => la_next (by omega) (ih (t + 1) S2 w2 (by omega) (by omega) hW2 hR2 hM2)
      refine z_aload_n dL_law_27 rfl ?_
      refine z_iload_n dL_law_28 rfl ?_
      refine z_sld dL_law_29 v0 ?_
      refine z_bipush 31 dL_law_30 (by decide) ?_
      refine z_iand dL_law_32 ?_
      refine z_table 0 [168, 221, 254, 267, 290, 323, 366, 389, 402, 435, 468, 511, 554, 597, 646, 679, 713, 757, 790, 823, 856, 869, 912, 925, 938, 971, 994, 1037, 1110, 1144] 1207 dL_law_33 (by decide) ⟨fun c33 => ?_, fun c33 => ?_, fun c33 => ?_, fun c33 => ?_, fun c33 => ?_, fun c33 => ?_, fun c33 => ?_, fun c33 => ?_, fun c33 => ?_, fun c33 => ?_, fun c33 => ?_, fun c33 => ?_, fun c33 => ?_, fun c33 => ?_, fun c33 => ?_, fun c33 => ?_, fun c33 => ?_, fun c33 => ?_, fun c33 => ?_, fun c33 => ?_, fun c33 => ?_, fun c33 => ?_, fun c33 => ?_, fun c33 => ?_, fun c33 => ?_, fun c33 => ?_, fun c33 => ?_, fun c33 => ?_, fun c33 => ?_, fun c33 => ?_, trivial⟩ (fun c33 => ?_)
      · exact La_c0 hx hm hd hW hR hM v kk
      · exact La_c1 hx hm hd hW hR hM v kk
      · exact La_c2 hx hm hd hW hR hM v kk
      · exact La_c3 hx hm hd hW hR hM v kk
      · exact La_c4 hx hm hd hW hR hM v kk
      · exact La_c5 hx hm hd hW hR hM v kk
      · exact La_c6 hx hm hd hW hR hM v kk
      · exact La_c7 hx hm hd hW hR hM v kk
      · exact La_c8 hx hm hd hW hR hM v kk
      · exact La_c9 hx hm hd hW hR hM v kk
      · exact La_c10 hx hm hd hW hR hM v kk
      · exact La_c11 hx hm hd hW hR hM v kk
      · exact La_c12 hx hm hd hW hR hM v kk
      · exact La_c13 hx hm hd hW hR hM v kk
      · exact La_c14 hx hm hd hW hR hM v kk
      · exact La_c15 hx hm hd hW hR hM v kk
      · exact La_c16 hx hm hd hW hR hM v kk
      · exact La_c17 hx hm hd hW hR hM v kk
      · exact La_c18 hx hm hd hW hR hM v kk
      · exact La_c19 hx hm hd hW hR hM v kk
      · exact La_c20 hx hm hd hW hR hM v kk
      · exact La_c21 hx hm hd hW hR hM v kk
      · exact La_c22 hx hm hd hW hR hM v kk
      · exact La_c23 hx hm hd hW hR hM v kk
      · exact La_c24 hx hm hd hW hR hM v kk
      · exact La_c25 hx hm hd hW hR hM v kk
      · exact La_c26 hx hm hd hW hR hM v kk
      · exact La_c27 hx hm hd hW hR hM v kk
      · exact La_c28 hx hm hd hW hR hM v kk
      · exact La_c29 hx hm hd hW hR hM v kk
      · exact kk _ _ hW hR hM
theorem la_start (hL : zbL G ≤ 3072) : zW G (MLaw n) room_1 (FL G) 0 0 0 [some (.ref (zb G)), none, none, none] [] (fun _ => none) x := by
  refine i_new d_RC n_La_7 dL_law_0 ⟨Nat.le_of_ble_eq_true rfl, Nat.le_of_ble_eq_true rfl⟩ ?_
  refine z_dup dL_law_3 rfl ?_
  refine z_callI l_La_9 (I_RC _ _) dL_law_4 rfl rfl (Nat.le_of_ble_eq_true rfl) ⟨⟨Nat.le_of_ble_eq_true rfl, Nat.le_of_ble_eq_true rfl⟩, Nat.le_of_ble_eq_true rfl, Nat.le_of_ble_eq_true rfl⟩ (fun r4 h4 z4 q4 => ?_)
  obtain ⟨rfl, rfl, rfl⟩ := q4
  refine z_astore_n (lv' := [_, _, _, _]) dL_law_7 (Nat.le_of_ble_eq_true rfl) rfl ?_
  refine i_new d_Mo n_La_10 dL_law_8 ⟨Nat.le_of_ble_eq_true rfl, Nat.le_of_ble_eq_true rfl⟩ ?_
  refine z_dup dL_law_11 rfl ?_
  refine z_callI l_La_12 (I_Mo _ _) dL_law_12 rfl rfl (Nat.le_of_ble_eq_true rfl) ⟨⟨Nat.le_of_ble_eq_true rfl, Nat.le_of_ble_eq_true rfl⟩, Nat.le_of_ble_eq_true rfl, Nat.le_of_ble_eq_true rfl⟩ (fun r12 h12 z12 q12 => ?_)
  obtain ⟨rfl, rfl, rfl⟩ := q12
  refine z_heap ((zls_app (by rw [n_RC])).trans (zls_sh g_All)) ?_
  refine z_astore_n (lv' := [_, _, _, _]) dL_law_15 (Nat.le_of_ble_eq_true rfl) rfl ?_
  refine z_iconst 0 dL_law_16 rfl ?_
  refine z_istore_n (lv' := [_, _, _, _]) dL_law_17 (Nat.le_of_ble_eq_true rfl) rfl ?_
  refine z_cs (cn' := 390) (sn' := 8337) (sz' := x + 390) (by decide) (by decide) (by omega) ?_
  exact la_loop (t := 0) (m := x + 367) (T_RC S_All1) (T_Mo (o := 367) rfl S_All2) rfl hL (zbL G / 6 + 1) _ w0 (by omega) (by omega) ok_w0 (R_RC S_All1) (R_Mo (o := 367) rfl S_All2)
end LL
/-- from the entry, for every script of at most 3072 ints, the law comes to its end with true -/
theorem whole_start {p : Program} {e : Env} {s : State} {m : MethodId} {below : List Frame} {meth : Method} {c : Code} (l : Launch) (hflags : l.flags = flags0) {b L : Nat} {xs : Nat → Int32} (hL : L ≤ 3072) (C0 : lw_At p s m meth c b L xs) : W p l e room_1 s m #[Value.ref b] below meth c s.heap [] 0 0 (lw_Z below #[Value.ref b] s) (entryFrame m ([Value.ref b] : List Value).toArray 4) := by
  obtain ⟨G, g1, g2, g3, g4, hK⟩ := e_zK C0
  obtain ⟨hx, hb, hr, hml, hown, hts, hX, hbl, hlocks, hgv⟩ := C0
  subst g2
  have hl := lv_entry ([.ref (zb G)]) (n := 4) (Nat.le_of_ble_eq_true rfl)
  rw [lg_entry_eq]
  generalize (lg_sl ([.ref (zb G)]) ++ List.replicate (4 - (lg_sl ([.ref (zb G)])).length) Slot.unset).toArray = ls at hl ⊢
  have hl : lv_has ls 4 [(0, .ref (zb G))] := hl
  have X : zX G (MLaw meth.name) p s m #[Value.ref (zb G)] meth c := ⟨hx, hb, hr, hml, hown, fun w h => hts w (List.mem_filter.mp h).1, hlocks, rfl, hK⟩
  have hA : zA G (zz G) (fun _ => none) s.heap := ⟨g1.symm, fun a e h => by cases h⟩
  have hLs : zL 4 [some (.ref (zb G)), none, none, none] ls := ⟨hl.1, hl.2.1, fun i v hi => by
    match i, hi with
    | 0, hi =>
      cases hi
      exact hl.2.2 (0, .ref (zb G)) List.mem_cons_self
    | 1, hi => cases hi
    | 2, hi => cases hi
    | 3, hi => cases hi
    | j + 4, hi => cases hi⟩
  have K := la_start (G := G) (n := meth.name) (x := zz G) (by rw [g3]; exact hL) p l e s m #[Value.ref (zb G)] below meth c s.heap [] ls X hA va_S.rf hLs
  intro T hT Y
  obtain ⟨t, a1, q⟩ := K T hT Y
  exact ⟨t, a1, q rfl g1.symm⟩

