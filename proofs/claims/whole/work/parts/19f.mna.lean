/-! ===== the model's array of arrays of longs ===== -/
theorem zA.many {G : zG} {sz : Nat} {ah : zH} {H H1 : Heap} (h : zA G sz ah H) (hG : zz G ≤ H.size) (es : List zE) (hes : ∀ j e, es[j]? = some e → va_at G.1.1 vwCl (sz + j, zcv G e) H1) (hz : H1.size = sz + es.length) (oq : ∀ q : Nat, q < sz → H1[q]? = H[q]?) : zA G (sz + es.length) (zls ah sz es) H1 := by
  refine ⟨hz, fun b e' hb => ?_⟩
  have old : ah b = some e' → b < sz ∧ zz G ≤ b ∧ va_at G.1.1 vwCl (b, zcv G e') H1 := fun q => by
    obtain ⟨h1, h2⟩ := h.2 b e' q
    have hl : b < H.size := h2.lt
    rw [h.1] at hl
    exact ⟨hl, h1, h2.kept (oq b hl)⟩
  unfold zls at hb
  by_cases hlt : sz ≤ b
  · rw [if_pos hlt] at hb
    cases he : es[b - sz]? with
    | none =>
      rw [he] at hb
      exact absurd (old hb).1 (by omega)
    | some e =>
      rw [he] at hb
      cases hb
      have := hes (b - sz) _ he
      rw [show sz + (b - sz) = b by omega] at this
      exact ⟨Nat.le_trans hG (by rw [h.1]; exact hlt), this⟩
  · rw [if_neg hlt] at hb
    exact (old hb).2
theorem outer_arrV (cA : ClassId) (h0 : Nat) : Jvm.Free.Multi.outerC cA 6 h0 6 = arrV cA 6 (fun j => va_rf (fRI (h0 + 1) 1 6 j)) := by
  obtain ⟨o1, o2, o3⟩ := Jvm.Free.Multi.outerC_facts cA 6 h0 6
  have hs := Jvm.Free.Multi.outerC_slot cA 6 h0 6
  have hC : Jvm.Free.Multi.outerC cA 6 h0 6 = { cls := cA, slots := (Jvm.Free.Multi.outerC cA 6 h0 6).slots, vm := .none } := rfl
  have e : (Jvm.Free.Multi.outerC cA 6 h0 6).slots = (arrV cA 6 (fun j => va_rf (fRI (h0 + 1) 1 6 j))).slots := by
    apply Array.ext_getElem?
    intro j
    by_cases hj : j < 6
    · rw [hs j hj, if_pos hj, arrV_read _ _ hj]
      show some (Value.ref (h0 + 1 + j)) = some (va_rf (if j < 6 then some (h0 + 1 + 1 * j) else none))
      rw [if_pos hj, Nat.one_mul]
      rfl
    · rw [Array.getElem?_eq_none (by omega), Array.getElem?_eq_none (by rw [arrV_size]; omega)]
  rw [hC, e]
  rfl
theorem w_aoJ : Cond.arrayOver (.array .long) ∈ lw_tbl := List.mem_of_getElem? (i := 870) (by decide +kernel)
theorem s_JJ : "[" ++ (FieldType.array .long).toString = "[[J" := by decide +kernel
section MNA
variable {G : zG} {M : zM} {R : Room} {F : zFin} {cn sn pc y : Nat} {lv : List (Option Value)} {st : List Value} {ah : zH} {sz : Nat} {e : zE} {L : List zE}
theorem z_mna {index : Nat} (hl : Cond.classLink M.1 index "[[J" ∈ lw_gd) (hd : decode (zcd M) pc = .ok (.multianewarray index 2, 4)) (hr : cn + (1 + 6) ≤ R.cells ∧ sn + (6 + 6 * 60) ≤ R.slots) (hz : sz = y + L.length + 1)
    (kk : zW G M R F (cn + 1 + 6) (sn + 6 + 6 * 60) (pc + 4) lv (.ref sz :: st) (zls ah y (e :: (L ++ (aR 6 6 (fRI (sz + 1) 1 6) :: List.replicate 6 (aL 60))))) (sz + 7)) : zW G M R F cn sn pc lv (.int 60 :: .int 6 :: st) (zls ah y (e :: L)) sz := by
  intro p l ev s m args below meth c H locs ls X hA hS hL T hT Y
  subst hT
  have hK := X.2.2.2.2.2.2.2.2
  have hzz : zz G ≤ T.heap.size := Nat.le_trans hK.2.2.2.2.2.1 hS.1
  have hw := X.2.2.2.2.2.1 _ hl
  rw [← s_JJ] at hw
  have e6 : (6 : Int32).toNatClampNeg = 6 := by decide
  have e60 : (60 : Int32).toNatClampNeg = 60 := by decide
  obtain ⟨vm₁, cA, comp, -, f1, f2, -, -, X', step⟩ := Y.multianewarray2F X.1 X.2.2.2.2.1 hw (hK.2.2.2.2.2.2.2.2.2 _ w_aoJ) (X.2.2.2.2.2.1 _ a_long) (g := F0 m pc ls (.int 60 :: .int 6 :: st)) rfl (by rw [X.2.1]; exact hd) (n := 6) (k := 60) (rest := st) rfl (by decide) (by decide) (by decide) (by decide) (by decide) rfl rfl (by rw [e6]; exact hr.1) (by rw [e6, e60]; exact hr.2)
  rw [e6, e60] at X' step
  have hcA : cA = G.1.2 6 := Option.some.inj (f1.symm.trans (hK.1.2 6 _ (ztys_at G (by decide))).2)
  have hcomp : comp = G.1.2 1 := Option.some.inj (f2.symm.trans (hK.1.2 1 _ (ztys_at G (by decide))).2)
  obtain ⟨g1, g2, -, -⟩ := Jvm.Free.Multi.fill_facts (T.setVm vm₁) cA comp 6 60 (defaultValue .long) 6
  have g3 := Jvm.Free.Multi.fill_inner (T.setVm vm₁) cA comp 6 60 (defaultValue .long) 6
  have g4 : ∀ a : Nat, a < T.heap.size → (Jvm.Free.Multi.fill (T.setVm vm₁) cA comp 6 60 (defaultValue .long) 6).heap[a]? = T.heap[a]? := fun a ha => Jvm.Free.Multi.fill_old (T.setVm vm₁) cA comp 6 60 (defaultValue .long) ha 6
  have hsz : T.heap.size = sz := hA.1
  have g1 : (Jvm.Free.Multi.fill (T.setVm vm₁) cA comp 6 60 (defaultValue .long) 6).heap.size = sz + 7 := by rw [← hsz]; exact g1
  have g2 : (Jvm.Free.Multi.fill (T.setVm vm₁) cA comp 6 60 (defaultValue .long) 6).heap[sz]? = some (Jvm.Free.Multi.outerC cA 6 sz 6) := by rw [← hsz]; exact g2
  have g3 : ∀ j, j < 6 → (Jvm.Free.Multi.fill (T.setVm vm₁) cA comp 6 60 (defaultValue .long) 6).heap[sz + 1 + j]? = some (Jvm.Free.Multi.innerC comp 60 (defaultValue .long)) := by rw [← hsz]; exact g3
  rw [hsz] at g4
  generalize hU : Jvm.Free.Multi.fill (T.setVm vm₁) cA comp 6 60 (defaultValue .long) 6 = U at X' step g1 g2 g3 g4
  have hA1 : zA G (sz + 7) (zls (zls ah y (e :: L)) sz (aR 6 6 (fRI (sz + 1) 1 6) :: List.replicate 6 (aL 60))) U.heap := by
    refine hA.many hzz (aR 6 6 (fRI (sz + 1) 1 6) :: List.replicate 6 (aL 60)) (fun j e' he => ?_) g1 g4
    match j, he with
    | 0, he =>
      cases he
      show U.heap[sz]? = some (vp_cell (G.1.2 6) _)
      rw [g2, outer_arrV, hcA]
      rfl
    | j + 1, he =>
      have he2 : (List.replicate 6 (aL 60))[j]? = some e' := he
      obtain ⟨hj, he3⟩ := List.getElem?_eq_some_iff.mp he2
      have hj : j < 6 := hj
      rw [List.getElem_replicate] at he3
      cases he3
      show U.heap[sz + (j + 1)]? = some (vp_cell (G.1.2 1) _)
      rw [show sz + (j + 1) = sz + 1 + j by omega, g3 j hj, ← hcomp]
      exact congrArg some (arrV_new comp 60 _)
  obtain ⟨t, a1, b1⟩ := kk p l ev s m args below meth c U.heap locs ls X (by rw [← zls_apc hz]; exact hA1) ⟨Nat.le_trans hS.1 (by rw [g1, hsz]; omega), fun q h1 h2 => (g4 q (by rw [← hsz]; exact Nat.lt_of_lt_of_le h1 hS.1)).trans (hS.2.1 q h1 h2), hS.2.2⟩ hL U rfl X'
  refine ⟨t, step t ?_, b1⟩
  rw [hsz]
  exact a1
end MNA

