/-! ===== the model's array of arrays of longs ===== -/
theorem zA.many {G : zG} {sz : Nat} {ah : zH} {H H1 : Heap} (h : zA G sz ah H) (hG : zz G ≤ H.size) (es : List zE) (hes : ∀ j e, es[j]? = some e → va_at G.1.1 vwCl (sz + j, zcv G e) H1) (hz : H1.size = sz + es.length) (oq : ∀ q : Nat, q < sz → H1[q]? = H[q]?) : zA G (sz + es.length) (zls ah sz es) H1 := by
  refine ⟨hz, fun b e' hb => ?_⟩
  have old : ah b = some e' → b < sz ∧ zz G ≤ b ∧ va_at G.1.1 vwCl (b, zcv G e') H1 := fun q => by
    obtain ⟨h1, h2⟩ := h.2 b e' q
    have hl : b < H.size := h2.lt
    rw [h.1] at hl
    exact ⟨hl, h1, h2.kept (oq b hl)⟩
  unfold zls at hb
  by_cases hlt : sz ≤ b
  · rw [if_pos hlt] at hb
    cases he : es[b - sz]? with
    | none =>
      rw [he] at hb
      exact absurd (old hb).1 (by omega)
    | some e =>
      rw [he] at hb
      cases hb
      have := hes (b - sz) _ he
      rw [show sz + (b - sz) = b by omega] at this
      exact ⟨Nat.le_trans hG (by rw [h.1]; exact hlt), this⟩
  · rw [if_neg hlt] at hb
    exact (old hb).2
/-! the outer array, with i of its rows laid; a row; what is new on the heap; the state -/
def zm_o (cA : ClassId) (h0 i : Nat) : Cell := arrV cA 6 (fun j => va_rf (fRI (h0 + 1) 1 i j))
def zm_r (cB : ClassId) : Cell := arrV cB 60 (fun _ => .long 0)
def zm_L (cA cB : ClassId) (h0 i : Nat) : List Cell := zm_o cA h0 i :: List.replicate i (zm_r cB)
def zm_T (cA cB : ClassId) (T : State) (i : Nat) : State := { T with heap := T.heap ++ (zm_L cA cB T.heap.size i).toArray, slotsUsed := T.slotsUsed + 6 + i * 60 }
theorem zm_len {cA cB : ClassId} {h0 i : Nat} : (zm_L cA cB h0 i).length = 1 + i := by
  unfold zm_L
  rw [List.length_cons, List.length_replicate, Nat.add_comm]
theorem zm_size {cA cB : ClassId} {T : State} {i : Nat} : (zm_T cA cB T i).heap.size = T.heap.size + 1 + i := by
  have h : (zm_L cA cB T.heap.size i).toArray.size = 1 + i := by simp only [List.size_toArray, zm_len]
  show (T.heap ++ (zm_L cA cB T.heap.size i).toArray).size = _
  rw [Array.size_append, h, Nat.add_assoc]
theorem zm_old {cA cB : ClassId} {T : State} {i a : Nat} (ha : a < T.heap.size) : (zm_T cA cB T i).heap[a]? = T.heap[a]? := by
  show (T.heap ++ (zm_L cA cB T.heap.size i).toArray)[a]? = _
  rw [Array.getElem?_append_left ha]
theorem zm_get {cA cB : ClassId} {T : State} {i j : Nat} : (zm_T cA cB T i).heap[T.heap.size + j]? = (zm_L cA cB T.heap.size i)[j]? := by
  show (T.heap ++ (zm_L cA cB T.heap.size i).toArray)[T.heap.size + j]? = _
  rw [Array.getElem?_append_right (Nat.le_add_right _ _), Nat.add_sub_cancel_left, List.getElem?_toArray]
theorem zm_o0 {cA : ClassId} {h0 : Nat} : ({ cls := cA, slots := Array.replicate 6 .null, vm := .none } : Cell) = zm_o cA h0 0 := by
  rw [arrV_new]
  exact congrArg (arrV cA 6) (funext fun j => by rw [fRI, if_neg (Nat.not_lt_zero j)]; rfl)
theorem zm_up {cA : ClassId} {h0 i : Nat} : (zm_o cA h0 i).setSlot i (.ref (h0 + 1 + i)) = zm_o cA h0 (i + 1) := by
  unfold zm_o
  rw [arrV_store]
  refine congrArg (arrV cA 6) (funext fun j => ?_)
  unfold updV fRI
  by_cases h : j = i
  · rw [if_pos h, if_pos (by omega), h, Nat.one_mul]
    rfl
  · rw [if_neg h]
    show va_rf (if j < i then some (h0 + 1 + 1 * j) else none) = _
    by_cases h2 : j < i
    · rw [if_pos h2, if_pos (by omega)]
    · rw [if_neg h2, if_neg (by omega)]
theorem zm_first {cA cB : ClassId} {T : State} : T.pushCell { cls := cA, slots := Array.replicate 6 .null, vm := .none } = zm_T cA cB T 0 := by
  show ({ T with heap := T.heap.push _, slotsUsed := T.slotsUsed + _ } : State) = { T with heap := T.heap ++ [_].toArray, slotsUsed := T.slotsUsed + 6 + 0 * 60 }
  rw [zm_o0 (h0 := T.heap.size), Array.push_eq_append]
  rfl
theorem zm_arr (A : Array Cell) (x y r : Cell) (L : List Cell) : ((A ++ (x :: L).toArray).push r).setIfInBounds A.size y = A ++ (y :: (L ++ [r])).toArray := by
  apply Array.ext'
  simp
theorem zm_next {cA cB : ClassId} {T : State} {i : Nat} : ((zm_T cA cB T i).pushCell (zm_r cB)).setCell T.heap.size (zm_o cA T.heap.size (i + 1)) = zm_T cA cB T (i + 1) := by
  show ({ T with heap := ((T.heap ++ (zm_L cA cB T.heap.size i).toArray).push (zm_r cB)).setIfInBounds T.heap.size (zm_o cA T.heap.size (i + 1)), slotsUsed := T.slotsUsed + 6 + i * 60 + (zm_r cB).slots.size } : State) = { T with heap := T.heap ++ (zm_L cA cB T.heap.size (i + 1)).toArray, slotsUsed := T.slotsUsed + 6 + (i + 1) * 60 }
  have e1 : (zm_r cB).slots.size = 60 := arrV_size _ _ _
  rw [zm_L, zm_arr, e1, zm_L, List.replicate_succ', Nat.succ_mul, ← Nat.add_assoc]
section MNA
variable {p : Program} {l : Launch} {e : Env} {R : Room} {s : State} {m : MethodId} {args : Array Value} {below : List Frame} {meth : Method} {c : Code} {T : State} {locs : List Loc} {cells slots : Nat}
/-- the walk stands there, behind each row -/
theorem zm_stand (X : Stand p l e R s m args below meth c T locs cells slots) (cA cB : ClassId) : ∀ i : Nat, Stand p l e R s m args below meth c (zm_T cA cB T i) locs (cells + 1 + i) (slots + 6 + i * 60)
  | 0 => by
    have h := X.pushed { cls := cA, slots := Array.replicate 6 .null, vm := .none }
    rw [zm_first (cB := cB), Array.size_replicate] at h
    rw [Nat.zero_mul]
    exact h
  | i + 1 => by
    have h1 := (zm_stand X cA cB i).pushed (zm_r cB)
    rw [show (zm_r cB).slots.size = 60 from arrV_size _ _ _] at h1
    have h2 : ((zm_T cA cB T i).pushCell (zm_r cB)).heap[T.heap.size]? = some (zm_o cA T.heap.size i) := by
      have hlt : T.heap.size < (zm_T cA cB T i).heap.size := by rw [zm_size]; omega
      rw [State.heap_pushCell_of_lt (h := hlt)]
      exact zm_get (j := 0)
    have h3 := h1.stored h2 i (.ref (T.heap.size + 1 + i))
    rw [zm_up, zm_next] at h3
    have h4 := h3.dropFresh (J := [⟨T.heap.size, i⟩]) (fun x hx => by
      rw [List.mem_singleton.mp hx]
      exact X.heapGrown)
    rw [Nat.succ_mul, ← Nat.add_assoc]
    exact h4
end MNA
section MNB
variable {E : CtlPost} {e : Env} {d : Bool} {acts : List Action} {s : State}
/-- a row is made -/
theorem zm_row {cB cc : ClassId} {k : Class} (hk : s.vm.classes[cB]? = some k) (hkind : k.kind = .array cc .long) (hl : ¬ 60 > e.platform.arrayLengthLimit) (hh : ¬ 60 * componentBytes .long > e.platform.maxHeapBytes)
    (h1 : s.heap.size < e.platform.maxCells) (h2 : s.slotsUsed + 60 ≤ e.platform.maxSlots) {Q : Addr → Pre} (hq : ∀ acts', Q s.heap.size d acts' (s.pushCell (zm_r cB))) : wp (multianewarray.make cB [60]) Q E e d acts s := by
  have e60 : (60 : Int32).toNatClampNeg = 60 := by decide
  have n60 : ¬ (60 : Int32) < 0 := by decide
  unfold multianewarray.make
  simp only [wp_bind', W.ite, n60, if_false, wp_pure', W.theClass, hk, hkind, Option.some.injEq, exists_eq_left', e60]
  refine W.newArray_of hk hkind hl hh h1 h2 rfl (fun acts' => ?_)
  have := hq acts'
  rw [zm_r, ← arrV_new] at this
  exact this
/-- six rows of sixty, and what holds them -/
theorem zm_make {cA cB cc : ClassId} {k k' : Class} (hk : s.vm.classes[cA]? = some k) (hkind : k.kind = .array cB (.array .long)) (hk' : s.vm.classes[cB]? = some k') (hkind' : k'.kind = .array cc .long)
    (hl : ¬ 60 > e.platform.arrayLengthLimit) (hh : ¬ 60 * componentBytes .long > e.platform.maxHeapBytes)
    (h1 : s.heap.size + (1 + 6) ≤ e.platform.maxCells) (h2 : s.slotsUsed + (6 + 6 * 60) ≤ e.platform.maxSlots) {Q : Addr → Pre} (hq : ∀ d' acts', Q s.heap.size d' acts' (zm_T cA cB s 6)) : wp (multianewarray.make cA [6, 60]) Q E e d acts s := by
  have e6 : (6 : Int32).toNatClampNeg = 6 := by decide
  have n6 : ¬ (6 : Int32) < 0 := by decide
  have z6 : ((6 : Int32) == 0) = false := by decide
  have hl6 : ¬ 6 > e.platform.arrayLengthLimit := by omega
  have hh6 : ¬ 6 * componentBytes (.array .long) > e.platform.maxHeapBytes := by
    have a1 : componentBytes .long = 8 := rfl
    have a2 : componentBytes (.array .long) = 4 := rfl
    rw [a1] at hh
    rw [a2]
    omega
  unfold multianewarray.make
  simp only [wp_bind', W.ite, n6, if_false, wp_pure', W.theClass, hk, hkind, Option.some.injEq, exists_eq_left', e6, z6]
  refine W.newArray_of hk hkind hl6 hh6 (by omega) (by omega) rfl (fun acts' => ?_)
  rw [zm_first (cB := cB)]
  simp only [Bool.false_eq_true, if_false, wp_bind', wp_pure']
  rw [Std.Legacy.Range.forIn_eq_forIn_range']
  show wp (forIn (List.range' 0 6 1) PUnit.unit _) _ E e d acts' _
  refine wp_forIn_inv (fun r s' => ∃ i : Nat, i ≤ 6 ∧ r = List.range' i (6 - i) ∧ s' = zm_T cA cB s i) _ _ ⟨0, by omega, rfl, rfl⟩ ?_ ?_
  · rintro x r s' d' acts' Q' ⟨i, hi, hr, rfl⟩ hn
    have hi6 : i < 6 := by
      rcases Nat.lt_or_ge i 6 with h | h
      · exact h
      · rw [show 6 - i = 0 by omega] at hr
        cases hr
    rw [show 6 - i = (6 - (i + 1)) + 1 by omega, List.range'_succ] at hr
    obtain ⟨rfl, hr2⟩ := List.cons.inj hr
    have hz := zm_size (cA := cA) (cB := cB) (T := s) (i := x)
    have hu : (zm_T cA cB s x).slotsUsed = s.slotsUsed + 6 + x * 60 := rfl
    simp only [wp_bind']
    refine zm_row (s := zm_T cA cB s x) hk' hkind' hl hh (by rw [hz]; omega) (by rw [hu]; omega) (fun acts2 => ?_)
    have hlt : s.heap.size < (zm_T cA cB s x).heap.size := by rw [hz]; omega
    simp only [wp_bind', W.writeLoc, wp_pure']
    refine ⟨zm_o cA s.heap.size x, by rw [State.heap_pushCell_of_lt (h := hlt)]; exact zm_get (j := 0), (by intro h; cases h), by rw [show (zm_o cA s.heap.size x).slots.size = 6 from arrV_size _ _ _]; exact hi6, ?_, hn _ _ _ ⟨x + 1, hi6, hr2, ?_⟩⟩
    · show State.fitsSlot _ cA .none x _ = true
      have hv : (zm_T cA cB s x).vm = s.vm := rfl
      simp [State.fitsSlot, State.slotType?, hv, hk, hkind, fits]
    · rw [hz, zm_up, zm_next]
  · rintro s' d' acts' ⟨i, hi, hr, rfl⟩
    have hi6 : i = 6 := by
      rcases Nat.lt_or_ge i 6 with h | h
      · rw [show 6 - i = (6 - (i + 1)) + 1 by omega, List.range'_succ] at hr
        cases hr
      · omega
    subst hi6
    exact hq _ _
end MNB
section MNC
variable {p : Program} {l : Launch} {e : Env} {R : Room} {s : State} {m : MethodId} {args : Array Value} {below : List Frame} {meth : Method} {c : Code} {T : State} {locs : List Loc} {cells slots : Nat}
/-- the instruction -/
theorem zm_instr (X : Stand p l e R s m args below meth c T locs cells slots) (hx : p.tables.exec = Jvm.exec) {own : String} {index : Nat} (hown : s.vm.findClass own = some m.cls) (hlink : (Cond.classLink own index ("[" ++ (FieldType.array .long).toString)).before args s = true)
    (hover : zAO (.array .long) s) (harr : (Cond.arrayClass .long).before args s = true) {g : JFrame} (hg : g.method = m) (hd : decode c.code g.pc = .ok (.multianewarray index 2, 4)) {rest : List Value} (hst : g.stack = .int 60 :: .int 6 :: rest)
    (hc : cells + (1 + 6) ≤ R.cells) (hs : slots + (6 + 6 * 60) ≤ R.slots) :
    ∃ (vm₁ : Vm) (cA cB : ClassId), s.vm.findClass ("[" ++ (FieldType.array .long).toString) = some cA ∧ s.vm.findClass (FieldType.array .long).toString = some cB ∧
      Stand p l e R s m args below meth c (zm_T cA cB (T.setVm vm₁) 6) locs (cells + 1 + 6) (slots + 6 + 6 * 60) ∧
      ∀ target, Steps p.tables e below ((zm_T cA cB (T.setVm vm₁) 6).setTop { g with pc := g.pc + 4, stack := .ref T.heap.size :: rest }) target → Steps p.tables e below (T.setTop g) target := by
  subst hg
  obtain ⟨cB, cA, kA, fB, -, hkA, hkindA, fA⟩ := hover.spec
  obtain ⟨cB', kB, cc, fB', hkB, hkindB⟩ := Cond.arrayClass_spec harr
  obtain rfl : cB' = cB := Option.some.inj (fB'.symm.trans fB)
  obtain ⟨cL, fL, hcl⟩ := Cond.classLink_spec hown hlink e.platform (by rw [X.admits.platform])
  obtain rfl : cL = cA := Option.some.inj (fL.symm.trans fA)
  obtain ⟨hgive, hwarm, -⟩ := State.classEntry (e := e) X.warmed hcl
  generalize T.vm.noted g.method.cls index (.cls cL) = vm₁ at hgive hwarm
  obtain ⟨kA', hkA', eA⟩ := hwarm.alike.2.2 _ _ hkA
  obtain ⟨kB', hkB', eB⟩ := hwarm.alike.2.2 _ _ hkB
  have hkindA' : kA'.kind = .array cB' (.array .long) := by rw [eA]; exact hkindA
  have hkindB' : kB'.kind = .array cc .long := by rw [eB]; exact hkindB
  have X1 := X.noted hwarm
  have X6 := zm_stand X1 cL cB' 6
  obtain ⟨r1, r2⟩ := X.roomAbove hc hs
  refine ⟨vm₁, cL, cB', fA, fB, X6, fun target h => ?_⟩
  have hl : ¬ 60 > e.platform.arrayLengthLimit := by rw [Launch.admits_arrayLengthLimit X.admits]; decide
  have hh : ¬ 60 * componentBytes .long > e.platform.maxHeapBytes := by rw [Launch.admits_maxHeapBytes X.admits]; decide
  jvm_step X.here [hx, hd]
  simp only [multianewarray.sem, wp_bind', W.resolveClassAt_links (State.method?_setTop g X.here.top) hgive]
  rw [W.popN, if_neg (by decide)]
  refine ⟨g, State.topJava?_setTop' (s := T.setVm vm₁) g X.here.top, [.int 6, .int 60], rest, rfl, hst, ?_⟩
  simp only [List.mapM_cons, List.mapM_nil, wp_bind', wp_pure']
  have hs1 : ((T.setTop g).setVm vm₁).setTop { g with stack := rest } = (T.setVm vm₁).setTop { g with stack := rest } := by
    show ((T.setVm vm₁).setTop g).setTop _ = _
    rw [State.setTop_setTop]
  rw [hs1]
  refine zm_make (s := (T.setVm vm₁).setTop { g with stack := rest }) hkA' hkindA' hkB' hkindB' hl hh r1 r2 (fun d' acts' => ?_)
  show wp _ _ _ _ _ _ ((zm_T cL cB' (T.setVm vm₁) 6).setTop { g with stack := rest })
  simp only [wp_bind', W.mark, W.pushRef, State.topJava?_setTop' _ X6.here.top, Option.some.injEq, exists_eq_left', State.setTop_setTop, State.heap_setTop]
  intro acts
  simp [jvm, X6.here.top]
  exact h
end MNC
theorem w_aoJ : Cond.arrayOver (.array .long) ∈ lw_tbl := List.mem_of_getElem? (i := 865) (by decide +kernel)
theorem s_JJ : "[" ++ (FieldType.array .long).toString = "[[J" := by decide +kernel
section MND
variable {G : zG} {M : zM} {R : Room} {F : zFin} {cn sn pc y : Nat} {lv : List (Option Value)} {st : List Value} {ah : zH} {sz : Nat} {e : zE} {L : List zE}
theorem z_mna {index : Nat} (hl : Cond.classLink M.1 index "[[J" ∈ lw_gd) (hd : decode (zcd M) pc = .ok (.multianewarray index 2, 4)) (hr : cn + (1 + 6) ≤ R.cells ∧ sn + (6 + 6 * 60) ≤ R.slots) (hz : sz = y + L.length + 1)
    (kk : zW G M R F (cn + 1 + 6) (sn + 6 + 6 * 60) (pc + 4) lv (.ref sz :: st) (zls ah y (e :: (L ++ (aR 6 6 (fRI (sz + 1) 1 6) :: List.replicate 6 (aL 60))))) (sz + 7)) : zW G M R F cn sn pc lv (.int 60 :: .int 6 :: st) (zls ah y (e :: L)) sz := by
  intro p l ev s m args below meth c H locs ls X hA hS hL T hT Y
  subst hT
  have hK := X.2.2.2.2.2.2.2.2
  have hzz : zz G ≤ T.heap.size := Nat.le_trans hK.2.2.2.2.2.1 hS.1
  have hw := X.2.2.2.2.2.1 _ hl
  rw [← s_JJ] at hw
  have e6 : (6 : Int32).toNatClampNeg = 6 := by decide
  have e60 : (60 : Int32).toNatClampNeg = 60 := by decide
  obtain ⟨vm₁, cA, comp, f1, f2, X', step⟩ := zm_instr Y X.1 X.2.2.2.2.1 hw (hK.2.2.2.2.2.2.2.2.2 _ w_aoJ) (X.2.2.2.2.2.1 _ a_long) (g := F0 m pc ls (.int 60 :: .int 6 :: st)) rfl (by rw [X.2.1]; exact hd) (rest := st) rfl hr.1 hr.2
  have hcA : cA = G.1.2 6 := Option.some.inj (f1.symm.trans (hK.1.2 6 _ (ztys_at G (by decide))).2)
  have hcomp : comp = G.1.2 1 := Option.some.inj (f2.symm.trans (hK.1.2 1 _ (ztys_at G (by decide))).2)
  have hsz : T.heap.size = sz := hA.1
  have g1 : (zm_T cA comp (T.setVm vm₁) 6).heap.size = sz + 7 := by rw [← hsz]; exact zm_size
  have g3 : ∀ j, (zm_T cA comp (T.setVm vm₁) 6).heap[sz + j]? = (zm_L cA comp sz 6)[j]? := by rw [← hsz]; exact fun j => zm_get (T := T.setVm vm₁)
  have g4 : ∀ a : Nat, a < sz → (zm_T cA comp (T.setVm vm₁) 6).heap[a]? = T.heap[a]? := fun a ha => zm_old (T := T.setVm vm₁) (by rw [← hsz] at ha; exact ha)
  generalize hU : zm_T cA comp (T.setVm vm₁) 6 = U at X' step g1 g3 g4
  have hA1 : zA G (sz + 7) (zls (zls ah y (e :: L)) sz (aR 6 6 (fRI (sz + 1) 1 6) :: List.replicate 6 (aL 60))) U.heap := by
    refine hA.many hzz (aR 6 6 (fRI (sz + 1) 1 6) :: List.replicate 6 (aL 60)) (fun j e' he => ?_) g1 g4
    match j, he with
    | 0, he =>
      cases he
      show U.heap[sz]? = some (vp_cell (G.1.2 6) _)
      rw [← hcA]
      exact g3 0
    | j + 1, he =>
      have he2 : (List.replicate 6 (aL 60))[j]? = some e' := he
      obtain ⟨hj, he3⟩ := List.getElem?_eq_some_iff.mp he2
      have hj : j < 6 := hj
      rw [List.getElem_replicate] at he3
      cases he3
      show U.heap[sz + (j + 1)]? = some (vp_cell (G.1.2 1) _)
      rw [← hcomp, g3 (j + 1)]
      show (List.replicate 6 (zm_r comp))[j]? = _
      rw [List.getElem?_replicate, if_pos hj]
      rfl
  obtain ⟨t, a1, b1⟩ := kk p l ev s m args below meth c U.heap locs ls X (by rw [← zls_apc hz]; exact hA1) ⟨Nat.le_trans hS.1 (by rw [g1, hsz]; omega), fun q h1 h2 => (g4 q (by rw [← hsz]; exact Nat.lt_of_lt_of_le h1 hS.1)).trans (hS.2.1 q h1 h2), hS.2.2⟩ hL U rfl X'
  refine ⟨t, step t ?_, b1⟩
  rw [hsz]
  exact a1
end MND

