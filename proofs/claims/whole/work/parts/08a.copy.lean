section ZC
variable {G : zG} {M : zM} {R : Room} {F : zFin} {cn sn pc : Nat} {lv : List (Option Value)} {st : List Value} {ah : zH} {sz : Nat} {sh : Nat → Option zSh} {S : zSt}
theorem z_copyi {index a0 a n0 n1 : Nat} {f g : Nat → Int32} {sp dp n : Int32} (hl : Cond.methodLink M.1 index arraycopyName ∈ lw_gd ∧ Cond.native arraycopyName ∈ lw_gd ∧ Cond.static arraycopyName ∈ lw_gd ∧ Cond.initialized "java/lang/System" ∈ lw_gd) (hd : decode (zcd M) pc = .ok (.invokestatic index, 3)) (ha0 : ah a0 = some (.inl (0, n0, .inl f))) (ha : ah a = some (.inl (0, n1, .inl g)))
    (hn : (¬ sp < 0 ∧ ¬ dp < 0 ∧ ¬ n < 0) ∧ sp.toNatClampNeg + n.toNatClampNeg ≤ n0 ∧ dp.toNatClampNeg + n.toNatClampNeg ≤ n1) (hR : 1 ≤ R.frames ∧ (st.map fun v => v.category).sum + (nativeFrameWords "java/lang/System" "arraycopy" 5 + 11) ≤ R.locals)
    (kk : zW G M R F cn sn (pc + 3) lv st (zu ah a (.inl (0, n1, .inl (va_cpy f g sp.toNatClampNeg dp.toNatClampNeg n.toNatClampNeg)))) sz) : zW G M R F cn sn pc lv (.int n :: .int dp :: .ref a :: .int sp :: .ref a0 :: st) ah sz := by
  intro p l e s m args below meth c H locs ls X hA hS hL
  obtain ⟨⟨h1, h2, h3⟩, h4, h5⟩ := hn
  obtain ⟨hza, hat⟩ := hA.2 a _ ha
  have ok : ∀ w ∈ lw_gd, w.before args s = true := X.2.2.2.2.2.1
  have nn : ∀ z : Int32, ¬ z < 0 → z.toInt = (z.toNatClampNeg : Int) := by
    intro z hz
    obtain ⟨j, hj, rfl⟩ := nI_of hz
    rw [nI_toInt hj, nI_clamp hj]
  have hc0 : H[a0]? = some (vp_cell (G.1.2 0) (n0, .inl f)) := (hA.2 a0 _ ha0).2
  have hc1 : H[a]? = some (vp_cell (G.1.2 0) (n1, .inl g)) := hat
  have hK := X.2.2.2.2.2.2.2.2.1.2 0 _ (ztys_at G (by decide))
  obtain ⟨-, k0, hk0, cm0, hkk0⟩ := hK.1 n0 (fun j => .int (f j))
  intro T hT XT
  obtain ⟨vm', X', step⟩ := XT.arraycopy X.1 X.2.2.2.2.1 (ok _ hl.1) (ok _ hl.2.1) (ok _ hl.2.2.1) (ok _ hl.2.2.2) (src := a0) (dst := a) (cs := vp_cell (G.1.2 0) (n0, .inl f)) (cd := vp_cell (G.1.2 0) (n1, .inl g)) (srcPos := sp) (destPos := dp) (n := n) (by rw [hT]; exact hc0) (by rw [hT]; exact hc1)
    (fun _ h => by cases h) (fun _ h => by cases h) (fun h => by cases h) (fun h => by cases h) hk0 hk0 hkk0 hkk0 (by simp [zT, refKind]) h1 h2 h3
    (by rw [nn sp h1, nn n h3]; show ¬ _ > ((arrV (G.1.2 0) n0 (fun j => .int (f j))).slots.size : Int); rw [arrV_size]; omega)
    (by rw [nn dp h2, nn n h3]; show ¬ _ > ((arrV (G.1.2 0) n1 (fun j => .int (g j))).slots.size : Int); rw [arrV_size]; omega)
    (fun vm₁ _ i hi => by
      have e9 : (vp_cell (G.1.2 0) (n0, .inl f)).slots.getD (sp.toNatClampNeg + i) .null = .int (f (sp.toNatClampNeg + i)) := by
        show (arrV (G.1.2 0) n0 (fun j => .int (f j))).slots.getD _ _ = _
        rw [Array.getD_eq_getD_getElem?, arrV_read _ _ (by omega)]
        rfl
      refine ⟨?_, ?_⟩
      · rw [e9]
        rfl
      · rw [e9]
        exact trivial)
    (g := F0 m pc ls (.int n :: .int dp :: .ref a :: .int sp :: .ref a0 :: st)) rfl (by rw [X.2.2.2.1]; exact hL.1) (rest := st) rfl (by rw [X.2.1]; exact hd) hR.1 (by show 2 * 0 + _ + _ ≤ _; have := hR.2; omega)
  have e1 : copied (vp_cell (G.1.2 0) (n0, .inl f)) (vp_cell (G.1.2 0) (n1, .inl g)) sp dp n = vp_cell (G.1.2 0) (n1, .inl (va_cpy f g sp.toNatClampNeg dp.toNatClampNeg n.toNatClampNeg)) := va_copied (fun z => .int z) (G.1.2 0) (G.1.2 0) f g h4
  rw [e1] at X' step
  have hl9 : a < H.size := (Array.getElem?_eq_some_iff.mp hc1).1
  generalize hN : vp_cell (G.1.2 0) (n1, .inl (va_cpy f g sp.toNatClampNeg dp.toNatClampNeg n.toNatClampNeg)) = N at X' step
  have hheap : ((T.setVm vm').setCell a N).heap = H.setIfInBounds a N := by rw [← hT]; rfl
  have oq : ∀ q : Nat, q ≠ a → (H.setIfInBounds a N)[q]? = H[q]? := fun q hq => by simp [Array.getElem?_setIfInBounds, Ne.symm hq]
  have at9 : (H.setIfInBounds a N)[a]? = some N := by simp [Array.getElem?_setIfInBounds, hl9]
  obtain ⟨t, a1, b1⟩ := kk p l e s m args below meth c (H.setIfInBounds a N) _ ls X (hA.set hza (show (H.setIfInBounds a N)[a]? = some (vp_cell (G.1.2 0) (n1, .inl (va_cpy f g sp.toNatClampNeg dp.toNatClampNeg n.toNatClampNeg))) by rw [hN]; exact at9) (by simp) oq) ⟨by simp; exact hS.1, fun q g1 g2 => by
      rw [oq q (fun e => g2 (by rw [e]; exact hza))]
      exact hS.2.1 q g1 g2, fun q hq => by
      rcases List.mem_append.mp hq with h | h
      · exact hS.2.2 q h
      · obtain ⟨z, -, hz⟩ := List.mem_map.mp h
        rw [← hz]
        exact hza⟩ hL _ hheap X'
  exact ⟨t, step t a1, b1⟩
theorem z_copyl {index a0 a n0 n1 : Nat} {f g : Nat → Int64} {sp dp n : Int32} (hl : Cond.methodLink M.1 index arraycopyName ∈ lw_gd ∧ Cond.native arraycopyName ∈ lw_gd ∧ Cond.static arraycopyName ∈ lw_gd ∧ Cond.initialized "java/lang/System" ∈ lw_gd) (hd : decode (zcd M) pc = .ok (.invokestatic index, 3)) (ha0 : ah a0 = some (.inl (1, n0, .inr (.inl f)))) (ha : ah a = some (.inl (1, n1, .inr (.inl g))))
    (hn : (¬ sp < 0 ∧ ¬ dp < 0 ∧ ¬ n < 0) ∧ sp.toNatClampNeg + n.toNatClampNeg ≤ n0 ∧ dp.toNatClampNeg + n.toNatClampNeg ≤ n1) (hR : 1 ≤ R.frames ∧ (st.map fun v => v.category).sum + (nativeFrameWords "java/lang/System" "arraycopy" 5 + 11) ≤ R.locals)
    (kk : zW G M R F cn sn (pc + 3) lv st (zu ah a (.inl (1, n1, .inr (.inl (va_cpy f g sp.toNatClampNeg dp.toNatClampNeg n.toNatClampNeg))))) sz) : zW G M R F cn sn pc lv (.int n :: .int dp :: .ref a :: .int sp :: .ref a0 :: st) ah sz := by
  intro p l e s m args below meth c H locs ls X hA hS hL
  obtain ⟨⟨h1, h2, h3⟩, h4, h5⟩ := hn
  obtain ⟨hza, hat⟩ := hA.2 a _ ha
  have ok : ∀ w ∈ lw_gd, w.before args s = true := X.2.2.2.2.2.1
  have nn : ∀ z : Int32, ¬ z < 0 → z.toInt = (z.toNatClampNeg : Int) := by
    intro z hz
    obtain ⟨j, hj, rfl⟩ := nI_of hz
    rw [nI_toInt hj, nI_clamp hj]
  have hc0 : H[a0]? = some (vp_cell (G.1.2 1) (n0, .inr (.inl f))) := (hA.2 a0 _ ha0).2
  have hc1 : H[a]? = some (vp_cell (G.1.2 1) (n1, .inr (.inl g))) := hat
  have hK := X.2.2.2.2.2.2.2.2.1.2 1 _ (ztys_at G (by decide))
  obtain ⟨-, k0, hk0, cm0, hkk0⟩ := hK.1 n0 (fun j => .long (f j))
  intro T hT XT
  obtain ⟨vm', X', step⟩ := XT.arraycopy X.1 X.2.2.2.2.1 (ok _ hl.1) (ok _ hl.2.1) (ok _ hl.2.2.1) (ok _ hl.2.2.2) (src := a0) (dst := a) (cs := vp_cell (G.1.2 1) (n0, .inr (.inl f))) (cd := vp_cell (G.1.2 1) (n1, .inr (.inl g))) (srcPos := sp) (destPos := dp) (n := n) (by rw [hT]; exact hc0) (by rw [hT]; exact hc1)
    (fun _ h => by cases h) (fun _ h => by cases h) (fun h => by cases h) (fun h => by cases h) hk0 hk0 hkk0 hkk0 (by simp [zT, refKind]) h1 h2 h3
    (by rw [nn sp h1, nn n h3]; show ¬ _ > ((arrV (G.1.2 1) n0 (fun j => .long (f j))).slots.size : Int); rw [arrV_size]; omega)
    (by rw [nn dp h2, nn n h3]; show ¬ _ > ((arrV (G.1.2 1) n1 (fun j => .long (g j))).slots.size : Int); rw [arrV_size]; omega)
    (fun vm₁ _ i hi => by
      have e9 : (vp_cell (G.1.2 1) (n0, .inr (.inl f))).slots.getD (sp.toNatClampNeg + i) .null = .long (f (sp.toNatClampNeg + i)) := by
        show (arrV (G.1.2 1) n0 (fun j => .long (f j))).slots.getD _ _ = _
        rw [Array.getD_eq_getD_getElem?, arrV_read _ _ (by omega)]
        rfl
      refine ⟨?_, ?_⟩
      · rw [e9]
        rfl
      · rw [e9]
        exact trivial)
    (g := F0 m pc ls (.int n :: .int dp :: .ref a :: .int sp :: .ref a0 :: st)) rfl (by rw [X.2.2.2.1]; exact hL.1) (rest := st) rfl (by rw [X.2.1]; exact hd) hR.1 (by show 2 * 0 + _ + _ ≤ _; have := hR.2; omega)
  have e1 : copied (vp_cell (G.1.2 1) (n0, .inr (.inl f))) (vp_cell (G.1.2 1) (n1, .inr (.inl g))) sp dp n = vp_cell (G.1.2 1) (n1, .inr (.inl (va_cpy f g sp.toNatClampNeg dp.toNatClampNeg n.toNatClampNeg))) := va_copied (fun z => .long z) (G.1.2 1) (G.1.2 1) f g h4
  rw [e1] at X' step
  have hl9 : a < H.size := (Array.getElem?_eq_some_iff.mp hc1).1
  generalize hN : vp_cell (G.1.2 1) (n1, .inr (.inl (va_cpy f g sp.toNatClampNeg dp.toNatClampNeg n.toNatClampNeg))) = N at X' step
  have hheap : ((T.setVm vm').setCell a N).heap = H.setIfInBounds a N := by rw [← hT]; rfl
  have oq : ∀ q : Nat, q ≠ a → (H.setIfInBounds a N)[q]? = H[q]? := fun q hq => by simp [Array.getElem?_setIfInBounds, Ne.symm hq]
  have at9 : (H.setIfInBounds a N)[a]? = some N := by simp [Array.getElem?_setIfInBounds, hl9]
  obtain ⟨t, a1, b1⟩ := kk p l e s m args below meth c (H.setIfInBounds a N) _ ls X (hA.set hza (show (H.setIfInBounds a N)[a]? = some (vp_cell (G.1.2 1) (n1, .inr (.inl (va_cpy f g sp.toNatClampNeg dp.toNatClampNeg n.toNatClampNeg)))) by rw [hN]; exact at9) (by simp) oq) ⟨by simp; exact hS.1, fun q g1 g2 => by
      rw [oq q (fun e => g2 (by rw [e]; exact hza))]
      exact hS.2.1 q g1 g2, fun q hq => by
      rcases List.mem_append.mp hq with h | h
      · exact hS.2.2 q h
      · obtain ⟨z, -, hz⟩ := List.mem_map.mp h
        rw [← hz]
        exact hza⟩ hL _ hheap X'
  exact ⟨t, step t a1, b1⟩
abbrev zCopyOk (n0 n1 : Nat) (sp dp n : Int32) : Prop := (¬ sp < 0 ∧ ¬ dp < 0 ∧ ¬ n < 0) ∧ sp.toNatClampNeg + n.toNatClampNeg ≤ n0 ∧ dp.toNatClampNeg + n.toNatClampNeg ≤ n1
theorem s_copyi {index a0 a n0 n1 : Nat} {f0 f1 : Nat → Option Nat} {sp dp n : Int32} (hl : Cond.methodLink M.1 index arraycopyName ∈ lw_gd ∧ Cond.native arraycopyName ∈ lw_gd ∧ Cond.static arraycopyName ∈ lw_gd ∧ Cond.initialized "java/lang/System" ∈ lw_gd) (hd : decode (zcd M) pc = .ok (.invokestatic index, 3)) (ha0 : sh a0 = some (.inr (0, n0, f0))) (ha : sh a = some (.inr (0, n1, f1))) (hn : zCopyOk n0 n1 sp dp n) (hR : 1 ≤ R.frames ∧ (st.map fun v => v.category).sum + (nativeFrameWords "java/lang/System" "arraycopy" 5 + 11) ≤ R.locals)
    (kk : zW G M R F cn sn (pc + 3) lv st (zhp sh (zsA S a (va_cpy (za S a0) (za S a) sp.toNatClampNeg dp.toNatClampNeg n.toNatClampNeg))) sz) : zW G M R F cn sn pc lv (.int n :: .int dp :: .ref a :: .int sp :: .ref a0 :: st) (zhp sh S) sz :=
  z_copyi hl hd (zhp_at ha0) (zhp_at ha) hn hR (z_heap (zhp_setA ha (Or.inl rfl)) kk)
theorem s_copyl {index a0 a n0 n1 : Nat} {f0 f1 : Nat → Option Nat} {sp dp n : Int32} (hl : Cond.methodLink M.1 index arraycopyName ∈ lw_gd ∧ Cond.native arraycopyName ∈ lw_gd ∧ Cond.static arraycopyName ∈ lw_gd ∧ Cond.initialized "java/lang/System" ∈ lw_gd) (hd : decode (zcd M) pc = .ok (.invokestatic index, 3)) (ha0 : sh a0 = some (.inr (1, n0, f0))) (ha : sh a = some (.inr (1, n1, f1))) (hn : zCopyOk n0 n1 sp dp n) (hR : 1 ≤ R.frames ∧ (st.map fun v => v.category).sum + (nativeFrameWords "java/lang/System" "arraycopy" 5 + 11) ≤ R.locals)
    (kk : zW G M R F cn sn (pc + 3) lv st (zhp sh (zsJ S a (va_cpy (zj S a0) (zj S a) sp.toNatClampNeg dp.toNatClampNeg n.toNatClampNeg))) sz) : zW G M R F cn sn pc lv (.int n :: .int dp :: .ref a :: .int sp :: .ref a0 :: st) (zhp sh S) sz :=
  z_copyl hl hd (zhp_at ha0) (zhp_at ha) hn hR (z_heap (zhp_setJ ha) kk)
theorem zi_si {a k : Nat} {v : Int32} : zi (zsi S a k v) a k = v := zup_same
theorem zi_sin {a k b j : Nat} {v : Int32} (h : ¬ (b = a ∧ j = k)) : zi (zsi S a k v) b j = zi S b j := zup_ne h
theorem zi_sik {a k b j : Nat} {v : Int32} (h : j ≠ k) : zi (zsi S a k v) b j = zi S b j := zup_ne (fun q => h q.2)
theorem za_sa {a k : Nat} {v : Int32} : za (zsa S a k v) a k = v := zup_same
theorem za_san {a k b j : Nat} {v : Int32} (h : ¬ (b = a ∧ j = k)) : za (zsa S a k v) b j = za S b j := zup_ne h
theorem z_mmax {index : Nat} {x y : Int32} (hl : Cond.methodLink M.1 index Lib.Math.max.name ∈ lw_gd ∧ Cond.static Lib.Math.max.name ∈ lw_gd ∧ Cond.initialized "java/lang/Math" ∈ lw_gd ∧ Cond.code Lib.Math.max.name Lib.Math.max.code 2 (some .int) ∈ lw_gd) (hd : decode (zcd M) pc = .ok (.invokestatic index, 3)) (hR : 1 ≤ R.frames ∧ (st.map fun v => v.category).sum + 13 ≤ R.locals ∧ cn ≤ R.cells ∧ sn ≤ R.slots) (kk : zW G M R F cn sn (pc + 3) lv (.int (if x < y then y else x) :: st) ah sz) : zW G M R F cn sn pc lv (.int y :: .int x :: st) ah sz := by
  intro p l e s m args below meth c H locs ls X hA hS hL
  have ok : ∀ w ∈ lw_gd, w.before args s = true := X.2.2.2.2.2.1
  exact va_mmax X.1 X.2.1 (by rw [X.2.2.2.1]; exact hL.1.symm) X.2.2.2.2.1 (ok _ hl.1) (ok _ hl.2.1) (ok _ hl.2.2.1) (ok _ hl.2.2.2) hR.1 hR.2.1 hR.2.2.1 hR.2.2.2 hd (kk p l e s m args below meth c H locs ls X hA hS hL)
theorem x_Work_60 : Cond.methodLink RX8 60 Lib.Math.max.name ∈ lw_gd ∧ Cond.static Lib.Math.max.name ∈ lw_gd ∧ Cond.initialized "java/lang/Math" ∈ lw_gd ∧ Cond.code Lib.Math.max.name Lib.Math.max.code 2 (some .int) ∈ lw_gd := ⟨zgd 594 (by decide +kernel) rfl, zgd 595 (by decide +kernel) rfl, zgd 67 (by decide +kernel) rfl, zgd 596 (by decide +kernel) rfl⟩
end ZC
theorem j_State_45 : Cond.methodLink RX6 45 arraycopyName ∈ lw_gd ∧ Cond.native arraycopyName ∈ lw_gd ∧ Cond.static arraycopyName ∈ lw_gd ∧ Cond.initialized "java/lang/System" ∈ lw_gd := ⟨zgd 798 (by decide +kernel) rfl, zgd 800 (by decide +kernel) rfl, zgd 799 (by decide +kernel) rfl, zgd 68 (by decide +kernel) rfl⟩
theorem j_Pairs_25 : Cond.methodLink RX2 25 arraycopyName ∈ lw_gd ∧ Cond.native arraycopyName ∈ lw_gd ∧ Cond.static arraycopyName ∈ lw_gd ∧ Cond.initialized "java/lang/System" ∈ lw_gd := ⟨zgd 805 (by decide +kernel) rfl, zgd 800 (by decide +kernel) rfl, zgd 799 (by decide +kernel) rfl, zgd 68 (by decide +kernel) rfl⟩
theorem j_RC_289 : Cond.methodLink RX9 289 arraycopyName ∈ lw_gd ∧ Cond.native arraycopyName ∈ lw_gd ∧ Cond.static arraycopyName ∈ lw_gd ∧ Cond.initialized "java/lang/System" ∈ lw_gd := ⟨zgd 857 (by decide +kernel) rfl, zgd 800 (by decide +kernel) rfl, zgd 799 (by decide +kernel) rfl, zgd 68 (by decide +kernel) rfl⟩
