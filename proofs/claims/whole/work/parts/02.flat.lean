/-! ===== the flat layer: one abstract heap, a judgement without its surroundings, contracts by equations ===== -/
abbrev zE : Type := (Nat × vp_A) ⊕ (Nat × List Value)
abbrev zH : Type := Nat → Option zE
/-- what is fixed for a run: classes and slots, array classes; where the new cells begin, the literals' cells; the script; a static that is a reference or null -/
abbrev zG : Type := (va_G × (Nat → ClassId)) × (Nat × (Nat → Nat) × (Nat → Nat)) × (Nat × Nat × (Nat → Int32)) × Value
abbrev zz (G : zG) : Nat := G.2.1.1
abbrev zsK (G : zG) : Nat → Nat := G.2.1.2.1
abbrev zsV (G : zG) : Nat → Nat := G.2.1.2.2
abbrev zb (G : zG) : Nat := G.2.2.1.1
abbrev zbL (G : zG) : Nat := G.2.2.1.2.1
abbrev zbx (G : zG) : Nat → Int32 := G.2.2.1.2.2
abbrev zfv (G : zG) : Value := G.2.2.2
abbrev zB (G : zG) : Nat → Prop := fun q => zz G ≤ q
def zT : Nat → FieldType
  | 0 => .int
  | 1 => .long
  | 2 => .byte
  | 3 => .object "RunColumns$Bits"
  | 4 => .object "RunColumns$Query"
  | 5 => .object "RunColumns$Tape"
  | _ => .array .long
def ztys (G : zG) : List (ClassId × FieldType) := (List.range 7).map (fun k => (G.1.2 k, zT k))
theorem ztys_at (G : zG) {k : Nat} (h : k < 7) : (ztys G)[k]? = some (G.1.2 k, zT k) := by
  simp [ztys, h]
def zcv (G : zG) : zE → va_E
  | .inl a => .inl (G.1.2 a.1, a.2)
  | .inr o => .inr o
def zlen : List Nat := [2, 3, 3, 3, 2, 5, 2]
def zbyt : List (List Int32) := [[111, 114], [97, 110, 100], [110, 111, 116], [97, 108, 108], [105, 115], [98, 101, 108, 111, 119], [105, 110]]
def zlit : List (Nat × String) := [(40, "or"), (57, "and"), (59, "not"), (82, "all"), (96, "is"), (98, "below"), (100, "in")]
/-- the words that every call hands on by themselves; those of nest mates -/
def lw_gd : List Cond := lw_tbl.filter goodWord
theorem zgd {w : Cond} (i : Nat) (h : lw_tbl[i]? = some w) (hg : goodWord w = true) : w ∈ lw_gd := List.mem_filter.mpr ⟨List.mem_of_getElem? h, hg⟩
def zns : Cond → Bool
  | .fieldLinkNest .. => true
  | .methodLinkNest .. => true
  | _ => false
theorem zns_warm {w : Cond} {s U : State} (hW : s.WarmedH U.vm) (h : zns w = true) (hZ : va_Nw w s) : va_Nw w U := by
  cases w <;> first | exact va_Nw.warmF hW hZ | exact va_Nw.warmM hW hZ | (cases h)
theorem zns_same {w : Cond} {s U : State} (hv : s.vm = U.vm) (h : zns w = true) (hZ : va_Nw w s) : va_Nw w U := by
  cases w <;> first | exact va_Nw.same rfl hv hZ | (cases h)
/-- the class of arrays over a type is known, and what it is an array of -/
def zAO (t : FieldType) (U : State) : Prop := (Cond.arrayOver t).before #[] U = true
theorem zAO.spec {t : FieldType} {U : State} (h : zAO (.array t) U) : ∃ (comp : ClassId) (c : Nat) (k : Class), U.vm.findClass (FieldType.array t).toString = some comp ∧ (U.vm.classes.findIdx? fun x => match x.kind with | .array component _ => component == comp | _ => false) = some c ∧ U.vm.classes[c]? = some k ∧ k.kind = .array comp (.array t) ∧ U.vm.findClass ("[" ++ (FieldType.array t).toString) = some c := by
  have h0 : ((U.vm.findClass (FieldType.array t).toString).bind fun comp => (U.vm.classes.findIdx? fun (x : Class) => match x.kind with | .array component _ => component == comp | _ => false).bind fun c => (U.vm.classes[c]?).map fun (k : Class) => match k.kind with | .array _ ty => decide (ty = .array t) && decide (U.vm.findClass ("[" ++ (FieldType.array t).toString) = some c) | _ => false) = some true := by
    have h1 := h
    unfold zAO Cond.before Cond.holds at h1
    simp only [Cond.value, beq_iff_eq] at h1
    exact h1
  obtain ⟨comp, f1, h1⟩ := Option.bind_eq_some_iff.mp h0
  obtain ⟨c, f2, h2⟩ := Option.bind_eq_some_iff.mp h1
  obtain ⟨k, f3, h3⟩ := Option.map_eq_some_iff.mp h2
  obtain ⟨hlt, hp, -⟩ := Array.findIdx?_eq_some_iff_getElem.mp f2
  rw [(Array.getElem?_eq_some_iff.mp f3).2] at hp
  cases hk : k.kind with
  | array q ty =>
    rw [hk] at h3 hp
    rw [Bool.and_eq_true, decide_eq_true_iff, decide_eq_true_iff] at h3
    refine ⟨comp, c, k, f1, f2, f3, ?_, h3.2⟩
    rw [hk, h3.1, show q = comp from eq_of_beq hp]
  | _ => rw [hk] at h3; exact absurd h3 Bool.false_ne_true
theorem zAO.moved {t : FieldType} {u U : State} (hvm : u.vm.Alike U.vm) (h : zAO t u) : zAO t U := by
  cases t with
  | object C => exact va_AO.moved hvm h
  | array t =>
    obtain ⟨comp, c, k, f1, f2, f3, f4, f5⟩ := h.spec
    obtain ⟨k', g3, ge⟩ := hvm.2.2 _ _ f3
    have g2 : (U.vm.classes.findIdx? fun (x : Class) => match x.kind with | .array component _ => component == comp | _ => false) = some c := by
      have hb : U.vm.bare = u.vm.bare := by first | exact hvm.bare_eq | exact hvm.bare_eq.symm
      refine (va_idx_bare U.vm comp).symm.trans ?_
      rw [hb]
      exact (va_idx_bare u.vm comp).trans f2
    rw [← hvm.findClass] at f1 f5
    have h0 : ((U.vm.findClass (FieldType.array t).toString).bind fun comp => (U.vm.classes.findIdx? fun (x : Class) => match x.kind with | .array component _ => component == comp | _ => false).bind fun c => (U.vm.classes[c]?).map fun (k : Class) => match k.kind with | .array _ ty => decide (ty = .array t) && decide (U.vm.findClass ("[" ++ (FieldType.array t).toString) = some c) | _ => false) = some true := by
      refine Option.bind_eq_some_iff.mpr ⟨comp, f1, Option.bind_eq_some_iff.mpr ⟨c, g2, Option.map_eq_some_iff.mpr ⟨k', g3, ?_⟩⟩⟩
      rw [ge, f4]
      simp [f5]
    unfold zAO Cond.before Cond.holds
    simp only [Cond.value, beq_iff_eq]
    exact h0
  | _ =>
    exfalso
    unfold zAO Cond.before Cond.holds at h
    simp [Cond.value] at h
def zK (G : zG) (U : State) (H : Heap) : Prop :=
  va_K G.1.1 vwCl (ztys G) U ∧ va_Z "java/lang/String" "COMPACT_STRINGS" "Z" (.int 1) (zB G) U H ∧ vk_S 7 zlen zbyt (zsK G) (zsV G) (zB G) U H ∧
  (∀ i : Nat, i < 7 → vk_R "RunColumns$Reader" (zlit.getD i (0, "")).1 (zlit.getD i (0, "")).2 (zsK G i) U) ∧ (va_X (zb G) (zbL G) (zbx G) U H ∧ zb G < zz G) ∧ zz G ≤ H.size ∧
  va_Z "jdk/internal/util/Preconditions" "SIOOBE_FORMATTER" "Ljava/util/function/BiFunction;" (zfv G) (zB G) U H ∧ (zfv G).category = 1 ∧ (∀ w ∈ lw_tbl, zns w = true → va_Nw w U) ∧ (∀ t : FieldType, Cond.arrayOver t ∈ lw_tbl → zAO t U)
theorem zK.warm {G : zG} {s U : State} {H : Heap} (hW : s.WarmedH U.vm) (h : zK G s H) : zK G U H :=
  ⟨h.1.moved hW.alike, h.2.1.moved hW.alike, h.2.2.1.moved hW.alike, fun i hi => (h.2.2.2.1 i hi).warm hW, ⟨h.2.2.2.2.1.1.moved hW.alike, h.2.2.2.2.1.2⟩, h.2.2.2.2.2.1, h.2.2.2.2.2.2.1.moved hW.alike, h.2.2.2.2.2.2.2.1, fun w hw hn => zns_warm hW hn (h.2.2.2.2.2.2.2.2.1 w hw hn), fun t ht => (h.2.2.2.2.2.2.2.2.2 t ht).moved hW.alike⟩
theorem zK.same {G : zG} {s U : State} {H : Heap} (hv : U.vm = s.vm) (h : zK G s H) : zK G U H := by
  have hA : s.vm.Alike U.vm := by rw [hv]; exact Vm.Alike.refl _
  exact ⟨h.1.moved hA, h.2.1.moved hA, h.2.2.1.moved hA, fun i hi => (h.2.2.2.1 i hi).same hv, ⟨h.2.2.2.2.1.1.moved hA, h.2.2.2.2.1.2⟩, h.2.2.2.2.2.1, h.2.2.2.2.2.2.1.moved hA, h.2.2.2.2.2.2.2.1, fun w hw hn => zns_same hv.symm hn (h.2.2.2.2.2.2.2.2.1 w hw hn), fun t ht => (h.2.2.2.2.2.2.2.2.2 t ht).moved hA⟩
theorem zK.kept {G : zG} {s : State} {H H1 : Heap} (h : zK G s H) (hz : H.size ≤ H1.size) (hq : ∀ a : Nat, a < H.size → ¬ zB G a → H1[a]? = H[a]?) : zK G s H1 :=
  ⟨h.1, h.2.1.kept hq, h.2.2.1.kept hq, h.2.2.2.1, ⟨h.2.2.2.2.1.1.kept (hq _ (Nat.lt_of_lt_of_le h.2.2.2.2.1.2 h.2.2.2.2.2.1) (Nat.not_le.mpr h.2.2.2.2.1.2)), h.2.2.2.2.1.2⟩, Nat.le_trans h.2.2.2.2.2.1 hz, h.2.2.2.2.2.2.1.kept hq, h.2.2.2.2.2.2.2⟩
def zA (G : zG) (sz : Nat) (ah : zH) (H : Heap) : Prop := H.size = sz ∧ ∀ (a : Nat) (e : zE), ah a = some e → zz G ≤ a ∧ va_at G.1.1 vwCl (a, zcv G e) H
def zu (ah : zH) (a : Nat) (e : zE) : zH := fun b => if b = a then some e else ah b
theorem zu_same {ah : zH} {a : Nat} {e : zE} : zu ah a e a = some e := if_pos rfl
theorem zu_ne {ah : zH} {a b : Nat} {e : zE} (h : ¬ b = a) : zu ah a e b = ah b := if_neg h
theorem zA.set {G : zG} {sz a : Nat} {ah : zH} {e : zE} {H H1 : Heap} (h : zA G sz ah H) (ha : zz G ≤ a) (he : va_at G.1.1 vwCl (a, zcv G e) H1) (hz : H1.size = H.size) (oq : ∀ q : Nat, q ≠ a → H1[q]? = H[q]?) : zA G sz (zu ah a e) H1 := by
  refine ⟨hz.trans h.1, fun b e' hb => ?_⟩
  by_cases hba : b = a
  · subst hba
    rw [zu_same] at hb
    cases hb
    exact ⟨ha, he⟩
  · rw [zu_ne hba] at hb
    exact ⟨(h.2 b e' hb).1, (h.2 b e' hb).2.kept (oq b hba)⟩
theorem zA.new {G : zG} {sz : Nat} {ah : zH} {e : zE} {H H1 : Heap} (h : zA G sz ah H) (hG : zz G ≤ H.size) (he : va_at G.1.1 vwCl (sz, zcv G e) H1) (hz : H1.size = sz + 1) (oq : ∀ q : Nat, q < sz → H1[q]? = H[q]?) : zA G (sz + 1) (zu ah sz e) H1 := by
  refine ⟨hz, fun b e' hb => ?_⟩
  by_cases hba : b = sz
  · subst hba
    rw [zu_same] at hb
    cases hb
    exact ⟨by rw [← h.1]; exact hG, he⟩
  · rw [zu_ne hba] at hb
    obtain ⟨h1, h2⟩ := h.2 b e' hb
    have hl : b < H.size := h2.lt
    exact ⟨h1, h2.kept (oq b (by rw [← h.1]; exact hl))⟩
/-! locals by their places -/
def zat : List (Option Value) → Nat → Option Value
  | [], _ => none
  | x :: _, 0 => x
  | _ :: l, n + 1 => zat l n
def zpt : List (Option Value) → Nat → Option Value → List (Option Value)
  | [], _, _ => []
  | _ :: l, 0, v => v :: l
  | x :: l, n + 1, v => x :: zpt l n v
def zclr (lv : List (Option Value)) (i : Nat) : List (Option Value) := match i with
  | 0 => lv
  | k + 1 => match zat lv k with
    | some w => if w.category = 2 then zpt lv k none else lv
    | none => lv
def zset1 (lv : List (Option Value)) (i : Nat) (v : Value) : List (Option Value) := zpt (zclr lv i) i (some v)
def zset2 (lv : List (Option Value)) (i : Nat) (v : Value) : List (Option Value) := zpt (zpt (zclr lv i) i (some v)) (i + 1) none
def zal : Nat → List (Option Value) → List (Nat × Value)
  | _, [] => []
  | j, some v :: l => (j, v) :: zal (j + 1) l
  | j, none :: l => zal (j + 1) l
theorem zal_mem : ∀ (lv : List (Option Value)) (j i : Nat) (v : Value), zat lv i = some v → (j + i, v) ∈ zal j lv
  | [], _, _, _, h => by cases h
  | some w :: l, j, 0, v, h => by cases h; exact List.mem_cons_self
  | some w :: l, j, n + 1, v, h => by
    have := zal_mem l (j + 1) n v h
    rw [show j + 1 + n = j + (n + 1) by omega] at this
    exact List.mem_cons_of_mem _ this
  | none :: l, j, 0, v, h => by cases h
  | none :: l, j, n + 1, v, h => by
    have := zal_mem l (j + 1) n v h
    rw [show j + 1 + n = j + (n + 1) by omega] at this
    exact this
theorem zal_inv : ∀ (lv : List (Option Value)) (j : Nat) (q : Nat × Value), q ∈ zal j lv → ∃ i, q.1 = j + i ∧ zat lv i = some q.2
  | [], _, _, h => by cases h
  | some w :: l, j, q, h => by
    rcases List.mem_cons.mp h with rfl | h
    · exact ⟨0, rfl, rfl⟩
    · obtain ⟨i, h1, h2⟩ := zal_inv l (j + 1) q h
      exact ⟨i + 1, by omega, h2⟩
  | none :: l, j, q, h => by
    obtain ⟨i, h1, h2⟩ := zal_inv l (j + 1) q h
    exact ⟨i + 1, by omega, h2⟩
theorem zpt_at : ∀ (lv : List (Option Value)) (i : Nat) (x : Option Value) (j : Nat) (w : Value), zat (zpt lv i x) j = some w → (j = i ∧ x = some w) ∨ (j ≠ i ∧ zat lv j = some w)
  | [], _, _, _, _, h => by cases h
  | y :: l, 0, x, 0, w, h => Or.inl ⟨rfl, h⟩
  | y :: l, 0, x, j + 1, w, h => Or.inr ⟨by omega, h⟩
  | y :: l, i + 1, x, 0, w, h => Or.inr ⟨by omega, h⟩
  | y :: l, i + 1, x, j + 1, w, h => by
    rcases zpt_at l i x j w h with ⟨h1, h2⟩ | ⟨h1, h2⟩
    · exact Or.inl ⟨by omega, h2⟩
    · exact Or.inr ⟨by omega, h2⟩
theorem zclr_at (lv : List (Option Value)) (i j : Nat) (w : Value) (h : zat (zclr lv i) j = some w) : zat lv j = some w ∧ ¬ (j + 1 = i ∧ w.category = 2) := by
  unfold zclr at h
  cases i with
  | zero => exact ⟨h, by omega⟩
  | succ k =>
    dsimp only at h
    cases hk : zat lv k with
    | none =>
      rw [hk] at h
      refine ⟨h, fun q => ?_⟩
      have : j = k := by omega
      subst this
      rw [h] at hk
      cases hk
    | some u =>
      rw [hk] at h
      dsimp only at h
      by_cases hc : u.category = 2
      · rw [if_pos hc] at h
        rcases zpt_at lv k none j w h with ⟨-, h2⟩ | ⟨h1, h2⟩
        · cases h2
        · exact ⟨h2, by omega⟩
      · rw [if_neg hc] at h
        refine ⟨h, fun q => ?_⟩
        have : j = k := by omega
        subst this
        rw [h] at hk
        cases hk
        exact hc q.2
def zL (n : Nat) (lv : List (Option Value)) (ls : Array Slot) : Prop := ls.size = n ∧ lv_wf ls ∧ ∀ (i : Nat) (v : Value), zat lv i = some v → ls[i]? = some (.val v)
theorem zL.has {n : Nat} {lv : List (Option Value)} {ls : Array Slot} (h : zL n lv ls) : lv_has ls n (zal 0 lv) :=
  ⟨h.1, h.2.1, fun q hq => by
    obtain ⟨i, h1, h2⟩ := zal_inv lv 0 q hq
    rw [h1, Nat.zero_add]
    exact h.2.2 i q.2 h2⟩
theorem zL.set1 {n i : Nat} {v : Value} {lv : List (Option Value)} {ls : Array Slot} (h : lv_has ls n ((i, v) :: (zal 0 lv).filter (fun q => !(q.1 == i) && !(q.1 + 1 == i && q.2.category == 2)))) : zL n (zset1 lv i v) ls := by
  refine ⟨h.1, h.2.1, fun j w hj => ?_⟩
  rcases zpt_at _ _ _ _ _ hj with ⟨h1, h2⟩ | ⟨h1, h2⟩
  · cases h2
    subst h1
    exact h.2.2 (j, v) List.mem_cons_self
  · obtain ⟨g1, g2⟩ := zclr_at _ _ _ _ h2
    have hm := zal_mem lv 0 j w g1
    rw [Nat.zero_add] at hm
    refine h.2.2 (j, w) (List.mem_cons_of_mem _ (List.mem_filter.mpr ⟨hm, ?_⟩))
    simp only [Bool.and_eq_true, Bool.not_eq_true', beq_eq_false_iff_ne, ne_eq, Bool.and_eq_false_iff]
    refine ⟨h1, ?_⟩
    by_cases hji : j + 1 = i
    · exact Or.inr (fun hc => g2 ⟨hji, hc⟩)
    · exact Or.inl hji
theorem zL.set2 {n i : Nat} {v : Value} {lv : List (Option Value)} {ls : Array Slot} (h : lv_has ls n ((i, v) :: (zal 0 lv).filter (fun q => !(q.1 == i) && (!(q.1 == i + 1) && !(q.1 + 1 == i && q.2.category == 2))))) : zL n (zset2 lv i v) ls := by
  refine ⟨h.1, h.2.1, fun j w hj => ?_⟩
  rcases zpt_at _ _ _ _ _ hj with ⟨h1, h2⟩ | ⟨h0, hj⟩
  · cases h2
  rcases zpt_at _ _ _ _ _ hj with ⟨h1, h2⟩ | ⟨h1, h2⟩
  · cases h2
    subst h1
    exact h.2.2 (j, v) List.mem_cons_self
  · obtain ⟨g1, g2⟩ := zclr_at _ _ _ _ h2
    have hm := zal_mem lv 0 j w g1
    rw [Nat.zero_add] at hm
    refine h.2.2 (j, w) (List.mem_cons_of_mem _ (List.mem_filter.mpr ⟨hm, ?_⟩))
    simp only [Bool.and_eq_true, Bool.not_eq_true', beq_eq_false_iff_ne, ne_eq, Bool.and_eq_false_iff]
    refine ⟨h1, h0, ?_⟩
    by_cases hji : j + 1 = i
    · exact Or.inr (fun hc => g2 ⟨hji, hc⟩)
    · exact Or.inl hji
def zent : List Value → List (Option Value)
  | [] => []
  | v :: vs => if v.category = 2 then some v :: none :: zent vs else some v :: zent vs
theorem zent_mem (k : Nat) : ∀ (av : List Value) (j i : Nat) (v : Value), zat (zent av ++ List.replicate k none) i = some v → (j + i, v) ∈ lv_args j av
  | [], j, i, v, h => by
    exfalso
    have : ∀ (k i : Nat), zat (List.replicate k none) i = none := by
      intro k
      induction k with
      | zero => intro i; rfl
      | succ k ih => intro i; cases i with
        | zero => rfl
        | succ i => exact ih i
    simp only [zent, List.nil_append] at h
    rw [this] at h
    cases h
  | w :: vs, j, i, v, h => by
    unfold zent at h
    unfold lv_args
    by_cases hc : w.category = 2
    · rw [if_pos hc] at h
      match i, h with
      | 0, h => cases h; exact List.mem_cons_self
      | 1, h => cases h
      | i + 2, h =>
        have := zent_mem k vs (j + 2) i v h
        rw [if_pos hc, show j + (i + 2) = j + 2 + i by omega]
        exact List.mem_cons_of_mem _ this
    · rw [if_neg hc] at h
      match i, h with
      | 0, h => cases h; exact List.mem_cons_self
      | i + 1, h =>
        have := zent_mem k vs (j + 1) i v h
        rw [if_neg hc, show j + (i + 1) = j + 1 + i by omega]
        exact List.mem_cons_of_mem _ this
/-! the judgement -/
abbrev zM : Type := String × MethodName × ByteArray × Nat × Option FieldType
abbrev zcd (M : zM) : ByteArray := M.2.2.1
abbrev zml (M : zM) : Nat := M.2.2.2.1
abbrev zrt (M : zM) : Option FieldType := M.2.2.2.2
def zX (G : zG) (M : zM) (p : Program) (s : State) (m : MethodId) (args : Array Value) (meth : Method) (c : Code) : Prop :=
  p.tables.exec = Jvm.exec ∧ c.code = zcd M ∧ meth.sig.returnType = zrt M ∧ c.maxLocals = zml M ∧ s.vm.findClass M.1 = some m.cls ∧ (∀ w ∈ lw_gd, w.before args s = true) ∧ meth.locks = false ∧ meth.name = M.2.1.name ∧ zK G s s.heap
abbrev zFin : Type := State → Array Value → List Frame → State → Prop
def zW (G : zG) (M : zM) (R : Room) (F : zFin) (cn sn : Nat) (pc : Nat) (lv : List (Option Value)) (st : List Value) (ah : zH) (sz : Nat) : Prop :=
  ∀ (p : Program) (l : Launch) (e : Env) (s : State) (m : MethodId) (args : Array Value) (below : List Frame) (meth : Method) (c : Code) (H : Heap) (locs : List Loc) (ls : Array Slot),
    zX G M p s m args meth c → zA G sz ah H → va_S (zB G) s.heap H locs → zL (zml M) lv ls → W p l e R s m args below meth c H locs cn sn (F s args below) (F0 m pc ls st)
abbrev zPost : Type := Option Value → zH → Nat → Prop
def zQ (G : zG) (Q : zPost) : Array Value → State → Outcome → State → Prop := fun _ st oc t =>
  (∃ (r : Option Value) (ah : zH) (sz : Nat), oc = .returned r ∧ Q r ah sz ∧ zA G sz ah t.heap) ∧ va_F (zB G) st t
def zFm (G : zG) (Q : zPost) (mc ms : Nat) : zFin := fun s args below => MQ below (zQ G Q) args s mc ms (zB G)
abbrev zRm (d mc ms : Nat) : Room := { frames := d, cells := mc, slots := ms, locals := 40 * d }
def zPc (G : zG) (av : List Value) (ah : zH) (sz : Nat) : Array Value → State → Prop := fun v U => v = av.toArray ∧ zA G sz ah U.heap ∧ zK G U U.heap
/-- a method's contract -/
def zC (G : zG) (M : zM) (d mc ms : Nat) (av : List Value) (ah : zH) (sz : Nat) (Q : zPost) : Prop :=
  ∀ l : Launch, Met l M.2.1 (Cond.code M.2.1 (zcd M) (zml M) (zrt M) :: lw_gd) (zRm d mc ms) (zPc G av ah sz) (zQ G Q) mc ms (zB G)
/-- its answer and its heap given outright; nothing is made -/
abbrev zQe (r : Option Value) (ah : zH) (sz : Nat) : zPost := fun r' ah' sz' => r' = r ∧ ah' = ah ∧ sz' = sz
abbrev zCe (G : zG) (M : zM) (d : Nat) (av : List Value) (ah : zH) (sz : Nat) (r : Option Value) (ah' : zH) : Prop := zC G M d 0 0 av ah sz (zQe r ah' sz)
theorem z_meth {G : zG} {M : zM} {d mc ms : Nat} {av : List Value} {ah : zH} {sz : Nat} {Q : zPost} (k : Nat) {lv : List (Option Value)} (hy : plainName M.2.1.cls = true ∧ M.1 = M.2.1.cls ∧ (lg_sl av).length ≤ zml M) (hlv : zent av ++ List.replicate k none = lv)
    (kk : zW G M (zRm d mc ms) (zFm G Q mc ms) 0 0 0 lv [] ah sz) : zC G M d mc ms av ah sz Q := by
  intro l
  refine Met.ofW (cc := zcd M) (maxL := zml M) (ret := zrt M) hy.1 rfl ?_
  intro p e s m args below meth c s₁ B hml hv
  obtain ⟨rfl, hA, hK⟩ := hv
  have hts := atoms_spec (ws := (Cond.code M.2.1 (zcd M) (zml M) (zrt M) :: lw_gd)) B.pre
  have hown : s.vm.findClass M.1 = some m.cls := by rw [hy.2.1]; exact findClass_of_methodNamed B.named
  rw [lg_entry_eq]
  have hl := lv_entry av (n := zml M) hy.2.2
  refine kk p l e s m av.toArray below meth c s.heap [] _ ⟨B.exec, B.bytes, B.returns, hml, hown, fun w h => hts w (List.mem_cons_of_mem _ h), B.notSynchronized, (name_of_methodNamed B.named B.method).1, hK⟩ hA va_S.rf ⟨hl.1, hl.2.1, fun i v hi => ?_⟩
  rw [← hlv] at hi
  have := zent_mem k av 0 i v hi
  rw [Nat.zero_add] at this
  exact hl.2.2 (i, v) this
section ZR
variable {G : zG} {M : zM} {R : Room} {F : zFin} {cn sn pc : Nat} {lv lv' : List (Option Value)} {st : List Value} {ah : zH} {sz : Nat}
theorem zXn {p : Program} {s : State} {m : MethodId} {args : Array Value} {meth : Method} {c : Code} (X : zX G M p s m args meth c) {w : Cond} (hw : w ∈ lw_tbl) (hn : zns w = true) : va_Nw w s := X.2.2.2.2.2.2.2.2.2.2.2.2.2.2.2.2.1 w hw hn
theorem z_eq {pc' : Nat} {lv' : List (Option Value)} {st' : List Value} {ah' : zH} (h1 : pc = pc') (h2 : lv = lv') (h3 : st = st') (h4 : ah = ah') (k : zW G M R F cn sn pc' lv' st' ah' sz) : zW G M R F cn sn pc lv st ah sz := by
  subst h1; subst h2; subst h3; subst h4; exact k
theorem z_heap {ah' : zH} (h4 : ah = ah') (k : zW G M R F cn sn pc lv st ah' sz) : zW G M R F cn sn pc lv st ah sz := by
  subst h4; exact k
/-- fewer locals -/
def zsub : List (Option Value) → List (Option Value) → Prop
  | _, [] => True
  | [], none :: l' => zsub [] l'
  | [], some _ :: _ => False
  | _ :: l, none :: l' => zsub l l'
  | x :: l, some v :: l' => x = some v ∧ zsub l l'
theorem zsub_at : ∀ (l l' : List (Option Value)), zsub l l' → ∀ (i : Nat) (v : Value), zat l' i = some v → zat l i = some v
  | _, [], _, i, v, h => by cases h
  | [], none :: l', hs, 0, v, h => by cases h
  | [], none :: l', hs, i + 1, v, h => by
    have := zsub_at [] l' (by simpa [zsub] using hs) i v h
    cases this
  | [], some _ :: _, hs, _, _, _ => by simp [zsub] at hs
  | y :: l, none :: l', hs, 0, v, h => by cases h
  | y :: l, none :: l', hs, i + 1, v, h => zsub_at l l' (by simpa [zsub] using hs) i v h
  | y :: l, some w :: l', hs, 0, v, h => by
    have h1 : y = some w ∧ zsub l l' := by simpa [zsub] using hs
    rw [h1.1]; exact h
  | y :: l, some w :: l', hs, i + 1, v, h => by
    have h1 : y = some w ∧ zsub l l' := by simpa [zsub] using hs
    exact zsub_at l l' h1.2 i v h
theorem z_loc (h : zsub lv lv') (k : zW G M R F cn sn pc lv' st ah sz) : zW G M R F cn sn pc lv st ah sz :=
  fun p l e s m args below meth c H locs ls X hA hS hL => k p l e s m args below meth c H locs ls X hA hS ⟨hL.1, hL.2.1, fun i v hi => hL.2.2 i v (zsub_at _ _ h i v hi)⟩
theorem z_iconst {n : Int} (v : Int32) (hd : decode (zcd M) pc = .ok (.iconst n, 1)) (hv : Int32.ofInt n = v) (k : zW G M R F cn sn (pc + 1) lv (.int v :: st) ah sz) : zW G M R F cn sn pc lv st ah sz :=
  fun p l e s m args below meth c H locs ls X hA hS hL => lv_iconst X.1 X.2.1 hd hv (k p l e s m args below meth c H locs ls X hA hS hL)
theorem z_bipush {n : Int} (v : Int32) (hd : decode (zcd M) pc = .ok (.bipush n, 2)) (hv : (Int8.ofInt n).toInt32 = v) (k : zW G M R F cn sn (pc + 2) lv (.int v :: st) ah sz) : zW G M R F cn sn pc lv st ah sz :=
  fun p l e s m args below meth c H locs ls X hA hS hL => lv_bipush X.1 X.2.1 hd hv (k p l e s m args below meth c H locs ls X hA hS hL)
theorem z_sipush {n : Int} (v : Int32) (hd : decode (zcd M) pc = .ok (.sipush n, 3)) (hv : (Int16.ofInt n).toInt32 = v) (k : zW G M R F cn sn (pc + 3) lv (.int v :: st) ah sz) : zW G M R F cn sn pc lv st ah sz :=
  fun p l e s m args below meth c H locs ls X hA hS hL => lv_sipush X.1 X.2.1 hd hv (k p l e s m args below meth c H locs ls X hA hS hL)
theorem z_lconst {n : Fin 2} (v : Int64) (hd : decode (zcd M) pc = .ok (.lconst n, 1)) (hv : Int64.ofNat (n : Nat) = v) (k : zW G M R F cn sn (pc + 1) lv (.long v :: st) ah sz) : zW G M R F cn sn pc lv st ah sz :=
  fun p l e s m args below meth c H locs ls X hA hS hL => lv_lconst X.1 X.2.1 hd hv (k p l e s m args below meth c H locs ls X hA hS hL)
theorem z_ldc {own : String} {index : Nat} (v : Int32) (hc : Cond.constant M.1 index v ∈ lw_gd) (hd : decode (zcd M) pc = .ok (.ldc index, 2)) (k : zW G M R F cn sn (pc + 2) lv (.int v :: st) ah sz) : zW G M R F cn sn pc lv st ah sz :=
  fun p l e s m args below meth c H locs ls X hA hS hL => lv_ldc X.1 X.2.1 X.2.2.2.2.1 (X.2.2.2.2.2.1 _ hc) hd (k p l e s m args below meth c H locs ls X hA hS hL)
theorem z_ldc2 {index : Nat} (v : Int64) (hc : Cond.constantLong M.1 index v ∈ lw_gd) (hd : decode (zcd M) pc = .ok (.ldc2_w index, 3)) (k : zW G M R F cn sn (pc + 3) lv (.long v :: st) ah sz) : zW G M R F cn sn pc lv st ah sz :=
  fun p l e s m args below meth c H locs ls X hA hS hL => lv_ldc2 X.1 X.2.1 X.2.2.2.2.1 (X.2.2.2.2.2.1 _ hc) hd (k p l e s m args below meth c H locs ls X hA hS hL)
theorem z_ldcS (i : Nat) (hi : i < 7) {index : Nat} (hM : M.1 = "RunColumns$Reader") (hx : (zlit.getD i (0, "")).1 = index) (hd : decode (zcd M) pc = .ok (.ldc index, 2)) (k : zW G M R F cn sn (pc + 2) lv (.ref (zsK G i) :: st) ah sz) : zW G M R F cn sn pc lv st ah sz :=
  fun p l e s m args below meth c H locs ls X hA hS hL => va_ldcS X.1 X.2.1 X.2.2.2.2.1 (hM ▸ hx ▸ X.2.2.2.2.2.2.2.2.2.2.2.1 i hi) hd (k p l e s m args below meth c H locs ls X hA hS hL)
theorem z_iload_n {n : Fin 4} {x : Int32} (hd : decode (zcd M) pc = .ok (.iload_n n, 1)) (hl : zat lv n = some (.int x)) (k : zW G M R F cn sn (pc + 1) lv (.int x :: st) ah sz) : zW G M R F cn sn pc lv st ah sz :=
  fun p l e s m args below meth c H locs ls X hA hS hL => lv_iload_n X.1 X.2.1 hd rfl (hL.2.2 _ _ hl) (k p l e s m args below meth c H locs ls X hA hS hL)
theorem z_iload {n : Nat} {x : Int32} (hd : decode (zcd M) pc = .ok (.iload n, 2)) (hl : zat lv n = some (.int x)) (k : zW G M R F cn sn (pc + 2) lv (.int x :: st) ah sz) : zW G M R F cn sn pc lv st ah sz :=
  fun p l e s m args below meth c H locs ls X hA hS hL => lv_iload X.1 X.2.1 hd (hL.2.2 _ _ hl) (k p l e s m args below meth c H locs ls X hA hS hL)
theorem z_istore_n {n : Fin 4} {x : Int32} (hd : decode (zcd M) pc = .ok (.istore_n n, 1)) (hn : (n : Nat) < zml M) (hl : zset1 lv n (.int x) = lv') (k : zW G M R F cn sn (pc + 1) lv' st ah sz) : zW G M R F cn sn pc lv (.int x :: st) ah sz :=
  fun p l e s m args below meth c H locs ls X hA hS hL => lv_istore_n X.1 X.2.1 hd rfl hL.has hn rfl (fun ls h => k p l e s m args below meth c H locs ls X hA hS (hl ▸ zL.set1 h))
theorem z_istore {n : Nat} {x : Int32} (hd : decode (zcd M) pc = .ok (.istore n, 2)) (hn : n < zml M) (hl : zset1 lv n (.int x) = lv') (k : zW G M R F cn sn (pc + 2) lv' st ah sz) : zW G M R F cn sn pc lv (.int x :: st) ah sz :=
  fun p l e s m args below meth c H locs ls X hA hS hL => lv_istore X.1 X.2.1 hd hL.has hn rfl (fun ls h => k p l e s m args below meth c H locs ls X hA hS (hl ▸ zL.set1 h))
theorem z_lload_n {n : Fin 4} {x : Int64} (hd : decode (zcd M) pc = .ok (.lload_n n, 1)) (hl : zat lv n = some (.long x)) (k : zW G M R F cn sn (pc + 1) lv (.long x :: st) ah sz) : zW G M R F cn sn pc lv st ah sz :=
  fun p l e s m args below meth c H locs ls X hA hS hL => lv_lload_n X.1 X.2.1 hd rfl (hL.2.2 _ _ hl) (k p l e s m args below meth c H locs ls X hA hS hL)
theorem z_lload {n : Nat} {x : Int64} (hd : decode (zcd M) pc = .ok (.lload n, 2)) (hl : zat lv n = some (.long x)) (k : zW G M R F cn sn (pc + 2) lv (.long x :: st) ah sz) : zW G M R F cn sn pc lv st ah sz :=
  fun p l e s m args below meth c H locs ls X hA hS hL => lv_lload X.1 X.2.1 hd (hL.2.2 _ _ hl) (k p l e s m args below meth c H locs ls X hA hS hL)
theorem z_lstore_n {n : Fin 4} {x : Int64} (hd : decode (zcd M) pc = .ok (.lstore_n n, 1)) (hn : (n : Nat) + 1 < zml M) (hl : zset2 lv n (.long x) = lv') (k : zW G M R F cn sn (pc + 1) lv' st ah sz) : zW G M R F cn sn pc lv (.long x :: st) ah sz :=
  fun p l e s m args below meth c H locs ls X hA hS hL => lv_lstore_n X.1 X.2.1 hd rfl hL.has hn rfl (fun ls h => k p l e s m args below meth c H locs ls X hA hS (hl ▸ zL.set2 h))
theorem z_lstore {n : Nat} {x : Int64} (hd : decode (zcd M) pc = .ok (.lstore n, 2)) (hn : n + 1 < zml M) (hl : zset2 lv n (.long x) = lv') (k : zW G M R F cn sn (pc + 2) lv' st ah sz) : zW G M R F cn sn pc lv (.long x :: st) ah sz :=
  fun p l e s m args below meth c H locs ls X hA hS hL => lv_lstore X.1 X.2.1 hd hL.has hn rfl (fun ls h => k p l e s m args below meth c H locs ls X hA hS (hl ▸ zL.set2 h))
theorem z_aload_n {n : Fin 4} {x : Nat} (hd : decode (zcd M) pc = .ok (.aload_n n, 1)) (hl : zat lv n = some (.ref x)) (k : zW G M R F cn sn (pc + 1) lv (.ref x :: st) ah sz) : zW G M R F cn sn pc lv st ah sz :=
  fun p l e s m args below meth c H locs ls X hA hS hL => lv_aload_n X.1 X.2.1 hd rfl (hL.2.2 _ _ hl) (k p l e s m args below meth c H locs ls X hA hS hL)
theorem z_aload {n : Nat} {x : Nat} (hd : decode (zcd M) pc = .ok (.aload n, 2)) (hl : zat lv n = some (.ref x)) (k : zW G M R F cn sn (pc + 2) lv (.ref x :: st) ah sz) : zW G M R F cn sn pc lv st ah sz :=
  fun p l e s m args below meth c H locs ls X hA hS hL => lv_aload X.1 X.2.1 hd (hL.2.2 _ _ hl) (k p l e s m args below meth c H locs ls X hA hS hL)
theorem z_astore_n {n : Fin 4} {x : Nat} (hd : decode (zcd M) pc = .ok (.astore_n n, 1)) (hn : (n : Nat) < zml M) (hl : zset1 lv n (.ref x) = lv') (k : zW G M R F cn sn (pc + 1) lv' st ah sz) : zW G M R F cn sn pc lv (.ref x :: st) ah sz :=
  fun p l e s m args below meth c H locs ls X hA hS hL => lv_astore_n X.1 X.2.1 hd rfl hL.has hn rfl (fun ls h => k p l e s m args below meth c H locs ls X hA hS (hl ▸ zL.set1 h))
theorem z_astore {n : Nat} {x : Nat} (hd : decode (zcd M) pc = .ok (.astore n, 2)) (hn : n < zml M) (hl : zset1 lv n (.ref x) = lv') (k : zW G M R F cn sn (pc + 2) lv' st ah sz) : zW G M R F cn sn pc lv (.ref x :: st) ah sz :=
  fun p l e s m args below meth c H locs ls X hA hS hL => lv_astore X.1 X.2.1 hd hL.has hn rfl (fun ls h => k p l e s m args below meth c H locs ls X hA hS (hl ▸ zL.set1 h))
theorem z_iinc {i : Nat} {n : Int} {x : Int32} (d : Int32) (hd : decode (zcd M) pc = .ok (.iinc i n, 3)) (hv : Int32.ofInt n = d) (hn : i < zml M) (hx : zat lv i = some (.int x)) (hl : zset1 lv i (.int (x + d)) = lv') (k : zW G M R F cn sn (pc + 3) lv' st ah sz) : zW G M R F cn sn pc lv st ah sz := by
  intro p l e s m args below meth c H locs ls X hA hS hL
  have hm := zal_mem lv 0 i _ hx
  rw [Nat.zero_add] at hm
  obtain ⟨j, hj⟩ := List.getElem?_of_mem hm
  exact lv_iinc (v := x + d) X.1 X.2.1 hd hL.has hj (by rw [hv]) hn rfl (fun ls h => k p l e s m args below meth c H locs ls X hA hS (hl ▸ zL.set1 h))
theorem z_iadd {x y : Int32} (hd : decode (zcd M) pc = .ok (.iadd, 1)) (k : zW G M R F cn sn (pc + 1) lv (.int (x + y) :: st) ah sz) : zW G M R F cn sn pc lv (.int y :: .int x :: st) ah sz :=
  fun p l e s m args below meth c H locs ls X hA hS hL => lv_iadd X.1 X.2.1 hd (k p l e s m args below meth c H locs ls X hA hS hL)
theorem z_isub {x y : Int32} (hd : decode (zcd M) pc = .ok (.isub, 1)) (k : zW G M R F cn sn (pc + 1) lv (.int (x - y) :: st) ah sz) : zW G M R F cn sn pc lv (.int y :: .int x :: st) ah sz :=
  fun p l e s m args below meth c H locs ls X hA hS hL => lv_isub X.1 X.2.1 hd (k p l e s m args below meth c H locs ls X hA hS hL)
theorem z_imul {x y : Int32} (hd : decode (zcd M) pc = .ok (.imul, 1)) (k : zW G M R F cn sn (pc + 1) lv (.int (x * y) :: st) ah sz) : zW G M R F cn sn pc lv (.int y :: .int x :: st) ah sz :=
  fun p l e s m args below meth c H locs ls X hA hS hL => lv_imul X.1 X.2.1 hd (k p l e s m args below meth c H locs ls X hA hS hL)
theorem z_iand {x y : Int32} (hd : decode (zcd M) pc = .ok (.iand, 1)) (k : zW G M R F cn sn (pc + 1) lv (.int (x &&& y) :: st) ah sz) : zW G M R F cn sn pc lv (.int y :: .int x :: st) ah sz :=
  fun p l e s m args below meth c H locs ls X hA hS hL => lv_iand X.1 X.2.1 hd (k p l e s m args below meth c H locs ls X hA hS hL)
theorem z_ior {x y : Int32} (hd : decode (zcd M) pc = .ok (.ior, 1)) (k : zW G M R F cn sn (pc + 1) lv (.int (x ||| y) :: st) ah sz) : zW G M R F cn sn pc lv (.int y :: .int x :: st) ah sz :=
  fun p l e s m args below meth c H locs ls X hA hS hL => lv_ior X.1 X.2.1 hd (k p l e s m args below meth c H locs ls X hA hS hL)
theorem z_ladd {x y : Int64} (hd : decode (zcd M) pc = .ok (.ladd, 1)) (k : zW G M R F cn sn (pc + 1) lv (.long (x + y) :: st) ah sz) : zW G M R F cn sn pc lv (.long y :: .long x :: st) ah sz :=
  fun p l e s m args below meth c H locs ls X hA hS hL => lv_ladd X.1 X.2.1 hd (k p l e s m args below meth c H locs ls X hA hS hL)
theorem z_lsub {x y : Int64} (hd : decode (zcd M) pc = .ok (.lsub, 1)) (k : zW G M R F cn sn (pc + 1) lv (.long (x - y) :: st) ah sz) : zW G M R F cn sn pc lv (.long y :: .long x :: st) ah sz :=
  fun p l e s m args below meth c H locs ls X hA hS hL => lv_lsub X.1 X.2.1 hd (k p l e s m args below meth c H locs ls X hA hS hL)
theorem z_land {x y : Int64} (hd : decode (zcd M) pc = .ok (.land, 1)) (k : zW G M R F cn sn (pc + 1) lv (.long (x &&& y) :: st) ah sz) : zW G M R F cn sn pc lv (.long y :: .long x :: st) ah sz :=
  fun p l e s m args below meth c H locs ls X hA hS hL => lv_land X.1 X.2.1 hd (k p l e s m args below meth c H locs ls X hA hS hL)
theorem z_lor {x y : Int64} (hd : decode (zcd M) pc = .ok (.lor, 1)) (k : zW G M R F cn sn (pc + 1) lv (.long (x ||| y) :: st) ah sz) : zW G M R F cn sn pc lv (.long y :: .long x :: st) ah sz :=
  fun p l e s m args below meth c H locs ls X hA hS hL => lv_lor X.1 X.2.1 hd (k p l e s m args below meth c H locs ls X hA hS hL)
theorem z_lxor {x y : Int64} (hd : decode (zcd M) pc = .ok (.lxor, 1)) (k : zW G M R F cn sn (pc + 1) lv (.long (x ^^^ y) :: st) ah sz) : zW G M R F cn sn pc lv (.long y :: .long x :: st) ah sz :=
  fun p l e s m args below meth c H locs ls X hA hS hL => lv_lxor X.1 X.2.1 hd (k p l e s m args below meth c H locs ls X hA hS hL)
theorem z_ishl {x y : Int32} (hd : decode (zcd M) pc = .ok (.ishl, 1)) (k : zW G M R F cn sn (pc + 1) lv (.int (x <<< (y &&& 31)) :: st) ah sz) : zW G M R F cn sn pc lv (.int y :: .int x :: st) ah sz :=
  fun p l e s m args below meth c H locs ls X hA hS hL => lv_ishl X.1 X.2.1 hd (k p l e s m args below meth c H locs ls X hA hS hL)
theorem z_ishr {x y : Int32} (hd : decode (zcd M) pc = .ok (.ishr, 1)) (k : zW G M R F cn sn (pc + 1) lv (.int (x >>> (y &&& 31)) :: st) ah sz) : zW G M R F cn sn pc lv (.int y :: .int x :: st) ah sz :=
  fun p l e s m args below meth c H locs ls X hA hS hL => lv_ishr X.1 X.2.1 hd (k p l e s m args below meth c H locs ls X hA hS hL)
theorem z_idiv {x y : Int32} (hd : decode (zcd M) pc = .ok (.idiv, 1)) (hne : ¬ y = 0) (k : zW G M R F cn sn (pc + 1) lv (.int (x / y) :: st) ah sz) : zW G M R F cn sn pc lv (.int y :: .int x :: st) ah sz :=
  fun p l e s m args below meth c H locs ls X hA hS hL => lv_idiv X.1 X.2.1 hd hne (k p l e s m args below meth c H locs ls X hA hS hL)
theorem z_irem {x y : Int32} (hd : decode (zcd M) pc = .ok (.irem, 1)) (hne : ¬ y = 0) (k : zW G M R F cn sn (pc + 1) lv (.int (x - x / y * y) :: st) ah sz) : zW G M R F cn sn pc lv (.int y :: .int x :: st) ah sz :=
  fun p l e s m args below meth c H locs ls X hA hS hL => lv_irem X.1 X.2.1 hd hne (k p l e s m args below meth c H locs ls X hA hS hL)
theorem z_lushr {x : Int64} {y : Int32} (hd : decode (zcd M) pc = .ok (.lushr, 1)) (k : zW G M R F cn sn (pc + 1) lv (.long (x.toUInt64 >>> (y.toInt64.toUInt64 &&& Int64.toUInt64 63)).toInt64 :: st) ah sz) : zW G M R F cn sn pc lv (.int y :: .long x :: st) ah sz :=
  fun p l e s m args below meth c H locs ls X hA hS hL => lv_lushr X.1 X.2.1 hd rfl (k p l e s m args below meth c H locs ls X hA hS hL)
theorem z_lshl {x : Int64} {y : Int32} (hd : decode (zcd M) pc = .ok (.lshl, 1)) (k : zW G M R F cn sn (pc + 1) lv (.long (x <<< (y.toInt64 &&& 63)) :: st) ah sz) : zW G M R F cn sn pc lv (.int y :: .long x :: st) ah sz :=
  fun p l e s m args below meth c H locs ls X hA hS hL => lv_lshl X.1 X.2.1 hd rfl (k p l e s m args below meth c H locs ls X hA hS hL)
theorem z_i2l {x : Int32} (hd : decode (zcd M) pc = .ok (.i2l, 1)) (k : zW G M R F cn sn (pc + 1) lv (.long (x.toInt64) :: st) ah sz) : zW G M R F cn sn pc lv (.int x :: st) ah sz :=
  fun p l e s m args below meth c H locs ls X hA hS hL => lv_i2l X.1 X.2.1 hd rfl (k p l e s m args below meth c H locs ls X hA hS hL)
theorem z_l2i {x : Int64} (hd : decode (zcd M) pc = .ok (.l2i, 1)) (k : zW G M R F cn sn (pc + 1) lv (.int (x.toInt32) :: st) ah sz) : zW G M R F cn sn pc lv (.long x :: st) ah sz :=
  fun p l e s m args below meth c H locs ls X hA hS hL => lv_l2i X.1 X.2.1 hd rfl (k p l e s m args below meth c H locs ls X hA hS hL)
theorem z_i2b {x : Int32} (hd : decode (zcd M) pc = .ok (.i2b, 1)) (k : zW G M R F cn sn (pc + 1) lv (.int (x.toInt8.toInt32) :: st) ah sz) : zW G M R F cn sn pc lv (.int x :: st) ah sz :=
  fun p l e s m args below meth c H locs ls X hA hS hL => lv_i2b X.1 X.2.1 hd rfl (k p l e s m args below meth c H locs ls X hA hS hL)
theorem z_i2s {x : Int32} (hd : decode (zcd M) pc = .ok (.i2s, 1)) (k : zW G M R F cn sn (pc + 1) lv (.int (x.toInt16.toInt32) :: st) ah sz) : zW G M R F cn sn pc lv (.int x :: st) ah sz :=
  fun p l e s m args below meth c H locs ls X hA hS hL => lv_i2s X.1 X.2.1 hd rfl (k p l e s m args below meth c H locs ls X hA hS hL)
theorem z_i2c {x : Int32} (hd : decode (zcd M) pc = .ok (.i2c, 1)) (k : zW G M R F cn sn (pc + 1) lv (.int (x.toUInt32 % 65536).toInt32 :: st) ah sz) : zW G M R F cn sn pc lv (.int x :: st) ah sz :=
  fun p l e s m args below meth c H locs ls X hA hS hL => lv_i2c X.1 X.2.1 hd rfl (k p l e s m args below meth c H locs ls X hA hS hL)
theorem z_lcmp {x y : Int64} (hd : decode (zcd M) pc = .ok (.lcmp, 1)) (k : zW G M R F cn sn (pc + 1) lv (.int (lg_cmp x y) :: st) ah sz) : zW G M R F cn sn pc lv (.long y :: .long x :: st) ah sz :=
  fun p l e s m args below meth c H locs ls X hA hS hL => W.lcmp X.1 X.2.1 hd (k p l e s m args below meth c H locs ls X hA hS hL)
theorem z_dup {v : Value} (hd : decode (zcd M) pc = .ok (.dup, 1)) (h1 : v.category = 1) (k : zW G M R F cn sn (pc + 1) lv (v :: v :: st) ah sz) : zW G M R F cn sn pc lv (v :: st) ah sz :=
  fun p l e s m args below meth c H locs ls X hA hS hL => lv_dup X.1 X.2.1 hd h1 (k p l e s m args below meth c H locs ls X hA hS hL)
theorem z_pop {v : Value} (hd : decode (zcd M) pc = .ok (.pop, 1)) (h1 : v.category = 1) (k : zW G M R F cn sn (pc + 1) lv st ah sz) : zW G M R F cn sn pc lv (v :: st) ah sz :=
  fun p l e s m args below meth c H locs ls X hA hS hL => lv_pop X.1 X.2.1 hd h1 (k p l e s m args below meth c H locs ls X hA hS hL)
theorem z_dup_x1 {v w : Value} (hd : decode (zcd M) pc = .ok (.dup_x1, 1)) (h1 : v.category = 1) (h2 : w.category = 1) (k : zW G M R F cn sn (pc + 1) lv (v :: w :: v :: st) ah sz) : zW G M R F cn sn pc lv (v :: w :: st) ah sz :=
  fun p l e s m args below meth c H locs ls X hA hS hL => lv_dup_x1 X.1 X.2.1 hd h1 h2 (k p l e s m args below meth c H locs ls X hA hS hL)
theorem z_dup_x2 {v w u : Value} (hd : decode (zcd M) pc = .ok (.dup_x2, 1)) (h1 : v.category = 1) (h2 : w.category = 1) (h3 : u.category = 1) (k : zW G M R F cn sn (pc + 1) lv (v :: w :: u :: v :: st) ah sz) : zW G M R F cn sn pc lv (v :: w :: u :: st) ah sz :=
  fun p l e s m args below meth c H locs ls X hA hS hL => lv_dup_x2 X.1 X.2.1 hd h1 h2 h3 (k p l e s m args below meth c H locs ls X hA hS hL)
theorem z_dup2 {v w : Value} (hd : decode (zcd M) pc = .ok (.dup2, 1)) (h1 : v.category = 1) (h2 : w.category = 1) (k : zW G M R F cn sn (pc + 1) lv (v :: w :: v :: w :: st) ah sz) : zW G M R F cn sn pc lv (v :: w :: st) ah sz :=
  fun p l e s m args below meth c H locs ls X hA hS hL => lv_dup2_11 X.1 X.2.1 hd h1 h2 (k p l e s m args below meth c H locs ls X hA hS hL)
theorem z_goto {off : Int} (tgt : Nat) (hd : decode (zcd M) pc = .ok (.goto off, 3)) (ht : (pc : Int) + off = (tgt : Int)) (k : zW G M R F cn sn tgt lv st ah sz) : zW G M R F cn sn pc lv st ah sz :=
  fun p l e s m args below meth c H locs ls X hA hS hL => lv_goto X.1 X.2.1 hd ht (k p l e s m args below meth c H locs ls X hA hS hL)
theorem z_widen {cn' sn' : Nat} (h1 : cn ≤ cn') (h2 : sn ≤ sn') (k : zW G M R F cn' sn' pc lv st ah sz) : zW G M R F cn sn pc lv st ah sz :=
  fun p l e s m args below meth c H locs ls X hA hS hL => W.widen h1 h2 (k p l e s m args below meth c H locs ls X hA hS hL)
theorem z_if_eq {x : Int32} {off : Int} (tgt : Nat) (hd : decode (zcd M) pc = .ok (.ifCond .eq off, 3)) (ht : (pc : Int) + off = (tgt : Int)) (kt : x = 0 → zW G M R F cn sn tgt lv st ah sz) (kf : ¬ x = 0 → zW G M R F cn sn (pc + 3) lv st ah sz) : zW G M R F cn sn pc lv (.int x :: st) ah sz :=
  fun p l e s m args below meth c H locs ls X hA hS hL => lv_if_eq X.1 X.2.1 hd ht (fun q => kt q p l e s m args below meth c H locs ls X hA hS hL) (fun q => kf q p l e s m args below meth c H locs ls X hA hS hL)
theorem z_if_ne {x : Int32} {off : Int} (tgt : Nat) (hd : decode (zcd M) pc = .ok (.ifCond .ne off, 3)) (ht : (pc : Int) + off = (tgt : Int)) (kt : ¬ x = 0 → zW G M R F cn sn tgt lv st ah sz) (kf : x = 0 → zW G M R F cn sn (pc + 3) lv st ah sz) : zW G M R F cn sn pc lv (.int x :: st) ah sz :=
  fun p l e s m args below meth c H locs ls X hA hS hL => lv_if_ne X.1 X.2.1 hd ht (fun q => kt q p l e s m args below meth c H locs ls X hA hS hL) (fun q => kf q p l e s m args below meth c H locs ls X hA hS hL)
theorem z_if_lt {x : Int32} {off : Int} (tgt : Nat) (hd : decode (zcd M) pc = .ok (.ifCond .lt off, 3)) (ht : (pc : Int) + off = (tgt : Int)) (kt : x < 0 → zW G M R F cn sn tgt lv st ah sz) (kf : ¬ x < 0 → zW G M R F cn sn (pc + 3) lv st ah sz) : zW G M R F cn sn pc lv (.int x :: st) ah sz :=
  fun p l e s m args below meth c H locs ls X hA hS hL => lv_if_lt X.1 X.2.1 hd ht (fun q => kt q p l e s m args below meth c H locs ls X hA hS hL) (fun q => kf q p l e s m args below meth c H locs ls X hA hS hL)
theorem z_if_ge {x : Int32} {off : Int} (tgt : Nat) (hd : decode (zcd M) pc = .ok (.ifCond .ge off, 3)) (ht : (pc : Int) + off = (tgt : Int)) (kt : 0 ≤ x → zW G M R F cn sn tgt lv st ah sz) (kf : ¬ 0 ≤ x → zW G M R F cn sn (pc + 3) lv st ah sz) : zW G M R F cn sn pc lv (.int x :: st) ah sz :=
  fun p l e s m args below meth c H locs ls X hA hS hL => lv_if_ge X.1 X.2.1 hd ht (fun q => kt q p l e s m args below meth c H locs ls X hA hS hL) (fun q => kf q p l e s m args below meth c H locs ls X hA hS hL)
theorem z_if_gt {x : Int32} {off : Int} (tgt : Nat) (hd : decode (zcd M) pc = .ok (.ifCond .gt off, 3)) (ht : (pc : Int) + off = (tgt : Int)) (kt : 0 < x → zW G M R F cn sn tgt lv st ah sz) (kf : ¬ 0 < x → zW G M R F cn sn (pc + 3) lv st ah sz) : zW G M R F cn sn pc lv (.int x :: st) ah sz :=
  fun p l e s m args below meth c H locs ls X hA hS hL => lv_if_gt X.1 X.2.1 hd ht (fun q => kt q p l e s m args below meth c H locs ls X hA hS hL) (fun q => kf q p l e s m args below meth c H locs ls X hA hS hL)
theorem z_if_le {x : Int32} {off : Int} (tgt : Nat) (hd : decode (zcd M) pc = .ok (.ifCond .le off, 3)) (ht : (pc : Int) + off = (tgt : Int)) (kt : x ≤ 0 → zW G M R F cn sn tgt lv st ah sz) (kf : ¬ x ≤ 0 → zW G M R F cn sn (pc + 3) lv st ah sz) : zW G M R F cn sn pc lv (.int x :: st) ah sz :=
  fun p l e s m args below meth c H locs ls X hA hS hL => lv_if_le X.1 X.2.1 hd ht (fun q => kt q p l e s m args below meth c H locs ls X hA hS hL) (fun q => kf q p l e s m args below meth c H locs ls X hA hS hL)
theorem z_icmp_eq {x y : Int32} {off : Int} (tgt : Nat) (hd : decode (zcd M) pc = .ok (.if_icmp .eq off, 3)) (ht : (pc : Int) + off = (tgt : Int)) (kt : x = y → zW G M R F cn sn tgt lv st ah sz) (kf : ¬ x = y → zW G M R F cn sn (pc + 3) lv st ah sz) : zW G M R F cn sn pc lv (.int y :: .int x :: st) ah sz :=
  fun p l e s m args below meth c H locs ls X hA hS hL => lv_icmp_eq X.1 X.2.1 hd ht (fun q => kt q p l e s m args below meth c H locs ls X hA hS hL) (fun q => kf q p l e s m args below meth c H locs ls X hA hS hL)
theorem z_icmp_ne {x y : Int32} {off : Int} (tgt : Nat) (hd : decode (zcd M) pc = .ok (.if_icmp .ne off, 3)) (ht : (pc : Int) + off = (tgt : Int)) (kt : ¬ x = y → zW G M R F cn sn tgt lv st ah sz) (kf : x = y → zW G M R F cn sn (pc + 3) lv st ah sz) : zW G M R F cn sn pc lv (.int y :: .int x :: st) ah sz :=
  fun p l e s m args below meth c H locs ls X hA hS hL => lv_icmp_ne X.1 X.2.1 hd ht (fun q => kt q p l e s m args below meth c H locs ls X hA hS hL) (fun q => kf q p l e s m args below meth c H locs ls X hA hS hL)
theorem z_icmp_lt {x y : Int32} {off : Int} (tgt : Nat) (hd : decode (zcd M) pc = .ok (.if_icmp .lt off, 3)) (ht : (pc : Int) + off = (tgt : Int)) (kt : x < y → zW G M R F cn sn tgt lv st ah sz) (kf : ¬ x < y → zW G M R F cn sn (pc + 3) lv st ah sz) : zW G M R F cn sn pc lv (.int y :: .int x :: st) ah sz :=
  fun p l e s m args below meth c H locs ls X hA hS hL => lv_icmp_lt X.1 X.2.1 hd ht (fun q => kt q p l e s m args below meth c H locs ls X hA hS hL) (fun q => kf q p l e s m args below meth c H locs ls X hA hS hL)
theorem z_icmp_ge {x y : Int32} {off : Int} (tgt : Nat) (hd : decode (zcd M) pc = .ok (.if_icmp .ge off, 3)) (ht : (pc : Int) + off = (tgt : Int)) (kt : y ≤ x → zW G M R F cn sn tgt lv st ah sz) (kf : ¬ y ≤ x → zW G M R F cn sn (pc + 3) lv st ah sz) : zW G M R F cn sn pc lv (.int y :: .int x :: st) ah sz :=
  fun p l e s m args below meth c H locs ls X hA hS hL => lv_icmp_ge X.1 X.2.1 hd ht (fun q => kt q p l e s m args below meth c H locs ls X hA hS hL) (fun q => kf q p l e s m args below meth c H locs ls X hA hS hL)
theorem z_icmp_gt {x y : Int32} {off : Int} (tgt : Nat) (hd : decode (zcd M) pc = .ok (.if_icmp .gt off, 3)) (ht : (pc : Int) + off = (tgt : Int)) (kt : y < x → zW G M R F cn sn tgt lv st ah sz) (kf : ¬ y < x → zW G M R F cn sn (pc + 3) lv st ah sz) : zW G M R F cn sn pc lv (.int y :: .int x :: st) ah sz :=
  fun p l e s m args below meth c H locs ls X hA hS hL => lv_icmp_gt X.1 X.2.1 hd ht (fun q => kt q p l e s m args below meth c H locs ls X hA hS hL) (fun q => kf q p l e s m args below meth c H locs ls X hA hS hL)
theorem z_icmp_le {x y : Int32} {off : Int} (tgt : Nat) (hd : decode (zcd M) pc = .ok (.if_icmp .le off, 3)) (ht : (pc : Int) + off = (tgt : Int)) (kt : x ≤ y → zW G M R F cn sn tgt lv st ah sz) (kf : ¬ x ≤ y → zW G M R F cn sn (pc + 3) lv st ah sz) : zW G M R F cn sn pc lv (.int y :: .int x :: st) ah sz :=
  fun p l e s m args below meth c H locs ls X hA hS hL => lv_icmp_le X.1 X.2.1 hd ht (fun q => kt q p l e s m args below meth c H locs ls X hA hS hL) (fun q => kf q p l e s m args below meth c H locs ls X hA hS hL)
def zsw (P : Nat → Prop) (x : Int32) : Nat → List Nat → Prop
  | _, [] => True
  | j, t :: l => (x = nI j → P t) ∧ zsw P x (j + 1) l
theorem zsw_at {P : Nat → Prop} {x : Int32} : ∀ (l : List Nat) (j i t : Nat), zsw P x j l → l[i]? = some t → x = nI (j + i) → P t
  | [], _, _, _, _, h, _ => by cases h
  | u :: l, j, 0, t, hs, h, hx => by
    cases h
    exact hs.1 hx
  | u :: l, j, i + 1, t, hs, h, hx => zsw_at l (j + 1) i t hs.2 h (by rw [hx]; congr 1; omega)
theorem z_table {x : Int32} {dflt lo hi : Int} {offs : Array Int} {len : Nat} (lo' : Nat) (tgts : List Nat) (dft : Nat) (hd : decode (zcd M) pc = .ok (.tableswitch dflt lo hi offs, len))
    (hc : (lo = (lo' : Int) ∧ hi + 1 = (lo' : Int) + (tgts.length : Int) ∧ (pc : Int) + dflt = (dft : Int) ∧ lo' + tgts.length < 2 ^ 31) ∧ offs.toList.map (fun o => (pc : Int) + o) = tgts.map (fun t : Nat => Int.ofNat t))
    (kin : zsw (fun t => zW G M R F cn sn t lv st ah sz) x lo' tgts) (kout : (∀ j, lo' ≤ j → j < lo' + tgts.length → ¬ x = nI j) → zW G M R F cn sn dft lv st ah sz) : zW G M R F cn sn pc lv (.int x :: st) ah sz := by
  intro p l e s m args below meth c H locs ls X hA hS hL
  obtain ⟨⟨rfl, h2, h3, h5⟩, h4⟩ := hc
  by_cases hr : x.toInt < (lo' : Int) ∨ hi < x.toInt
  · refine lv_tableOut X.1 X.2.1 hd hr h3 (kout (fun j hj1 hj2 hx => ?_) p l e s m args below meth c H locs ls X hA hS hL)
    rw [hx, nI_toInt (by omega)] at hr
    omega
  · have h0 : ¬ x < 0 := by
      intro q
      have := Int32.lt_iff_toInt_lt.mp q
      rw [Int32.toInt_zero] at this
      omega
    obtain ⟨j, hj, rfl⟩ := nI_of h0
    rw [nI_toInt hj] at hr
    have hj1 : lo' ≤ j := by omega
    have hjl : j - lo' < tgts.length := by omega
    have ht : tgts[j - lo']? = some tgts[j - lo'] := List.getElem?_eq_getElem hjl
    have h6 : (offs.toList.map (fun o => (pc : Int) + o))[j - lo']? = (tgts.map (fun t : Nat => Int.ofNat t))[j - lo']? := by rw [h4]
    rw [List.getElem?_map, List.getElem?_map, ht] at h6
    cases ho : offs.toList[j - lo']? with
    | none => rw [ho] at h6; cases h6
    | some o =>
      rw [ho] at h6
      have h7 : (pc : Int) + o = ((tgts[j - lo'] : Nat) : Int) := Option.some.inj h6
      have ho2 : offs[j - lo']? = some o := by rw [← Array.getElem?_toList]; exact ho
      refine lv_tableIn (off := o) X.1 X.2.1 hd (by rw [nI_toInt hj]; omega) (by rw [nI_toInt hj]; omega) (by rw [nI_toInt hj, show ((j : Int) - (lo' : Int)).toNat = j - lo' by omega]; exact ho2) h7 ?_
      exact zsw_at tgts lo' (j - lo') _ kin ht (by congr 1; omega) p l e s m args below meth c H locs ls X hA hS hL
/-- a class of the worlds: its name, fields, their types, how many -/
def zCl (ci : Nat) (C : String) (T : u_T) (ty : Nat → FieldType) (N : Nat) : Prop := vwCl[ci]? = some (C, T, N) ∧ (∀ w ∈ u_ws C T N, w ∈ lw_gd) ∧ (∀ k, k < N → parseFieldDescriptor (T k).2.2.1 = some (ty k)) ∧ (∀ a, a < N → ∀ b, b < N → a ≠ b → (T a).2.1 ≠ (T b).2.1)
/-- a field that an instruction names: place k of class ci, of type t, final or not -/
def zFl (own : String) (index ci k : Nat) (t : FieldType) (fin : Bool) : Prop := ∃ (C : String) (T : u_T) (ty : Nat → FieldType) (N : Nat), zCl ci C T ty N ∧ k < N ∧ ty k = t ∧ (T k).2.2.2 = fin ∧ (T k).1 = C ∧ (Cond.fieldLink own index C (T k).2.1 (T k).2.2.1 ∈ lw_gd ∨ ∃ host, Cond.fieldLinkNest own index C (T k).2.1 (T k).2.2.1 host ∈ lw_tbl)
theorem z_getf {ci k index a : Nat} {t : FieldType} {fin : Bool} {fs : List Value} {v : Value} (hf : zFl M.1 index ci k t fin) (hd : decode (zcd M) pc = .ok (.getfield index, 3)) (he : ah a = some (.inr (ci, fs))) (hv : fs[k]? = some v) (kk : zW G M R F cn sn (pc + 3) lv (v :: st) ah sz) : zW G M R F cn sn pc lv (.ref a :: st) ah sz := by
  intro p l e s m args below meth c H locs ls X hA hS hL
  obtain ⟨C, T, ty, N, ⟨h1, h2, h3, h4⟩, hk, rfl, rfl, hC, hl⟩ := hf
  have hP : va_P G.1.1 vwCl [(a, .inr (ci, fs))] H := fun j q hq => by
    cases j with
    | zero => cases hq; exact (hA.2 a _ he).2
    | succ j => cases hq
  rcases hl with hl | ⟨host, hl⟩
  · exact va_get (C := C) (T := T) (N := N) (ref := C) X.1 X.2.1 X.2.2.2.2.2.1 h2 X.2.2.2.2.1 X.2.2.2.2.2.2.2.2.1 hP 0 rfl h1 k hk (X.2.2.2.2.2.1 _ hl) (fun x h => by rw [hC] at h; exact h) hv hd (kk p l e s m args below meth c H locs ls X hA hS hL)
  · exact va_getN (C := C) (T := T) (N := N) (ref := C) X.1 X.2.1 X.2.2.2.2.2.1 h2 X.2.2.2.2.1 X.2.2.2.2.2.2.2.2.1 hP 0 rfl h1 k hk (va_Nw.use rfl (zXn X hl rfl)) (fun x h => by rw [hC] at h; exact h) hv hd (kk p l e s m args below meth c H locs ls X hA hS hL)
theorem zB1 {G : zG} {a : Nat} {e : va_E} (h : zz G ≤ a) : va_D (zB G) [(a, e)] := by
  refine ⟨fun i j p q hi hj _ => ?_, fun k q hk => ?_⟩
  · have h1 : i < 1 := (List.getElem?_eq_some_iff.mp hi).1
    have h2 : j < 1 := (List.getElem?_eq_some_iff.mp hj).1
    omega
  · have h1 : k < 1 := (List.getElem?_eq_some_iff.mp hk).1
    rw [show k = 0 by omega] at hk
    cases hk
    exact h
theorem zP1 {G : zG} {a : Nat} {e : va_E} {H : Heap} (h : va_at G.1.1 vwCl (a, e) H) : va_P G.1.1 vwCl [(a, e)] H := fun j q hq => by
  cases j with
  | zero => cases hq; exact h
  | succ j => cases hq
/-- what lies elsewhere stays: from the frame of one store -/
theorem zA.put {G : zG} {sz a : Nat} {ah : zH} {e : zE} {H H1 : Heap} {locs1 : List Loc} (h : zA G sz ah H) (ha : zz G ≤ a) (hP : va_P G.1.1 vwCl [(a, zcv G e)] H1) (hz : H1.size = H.size) (oq : ∀ q : Nat, q ≠ a → H1[q]? = H[q]?) : zA G sz (zu ah a e) H1 := h.set ha (hP 0 _ rfl) hz oq
theorem z_putf {ci k index a : Nat} {t : FieldType} {fs : List Value} {v : Value} (hf : zFl M.1 index ci k t false) (hd : decode (zcd M) pc = .ok (.putfield index, 3)) (he : ah a = some (.inr (ci, fs))) (hl : k < fs.length) (hn : narrow t v = v ∧ fits t v = true) (kk : zW G M R F cn sn (pc + 3) lv st (zu ah a (.inr (ci, fs.set k v))) sz) : zW G M R F cn sn pc lv (v :: .ref a :: st) ah sz := by
  intro p l e s m args below meth c H locs ls X hA hS hL
  obtain ⟨C, T, ty, N, ⟨h1, h2, h3, h4⟩, hk, rfl, hfin, hC, hlk⟩ := hf
  obtain ⟨hza, hat⟩ := hA.2 a _ he
  have hap := va_apart (own := M.1) X.2.2.2.2.2.1 h2 ty h3 h4 X.2.2.2.2.2.2.2.2.1 h1
  obtain ⟨r, hr1, cell, q1, q2, q3, q4⟩ := hat
  have hr : r = (C, T, N) := Option.some.inj (hr1.symm.trans h1)
  subst hr
  obtain ⟨hSl, hfc, kC, hkC, hkind⟩ := X.2.2.2.2.2.2.2.2.1.1 ci _ h1
  obtain ⟨cf, kf, fi, f, hi, hsl⟩ := hSl k hk
  have hlay := X.2.2.2.2.2.1 _ (h2 _ (u_in_lay hk))
  unfold u_lay at hlay
  rw [if_neg (by rw [hfin]; decide)] at hlay
  have hst := (u_facts hfc hkC (u_lays X.2.2.2.2.2.1 h2 hk) hi).1
  have h6 := u_store hfc hkC hkind hlay hi (h3 k hk) hn.1 hn.2
  have hi' : s.fieldFound? C (T k).2.1 (T k).2.2.1 = some (cf, kf, fi, f) := hC ▸ hi
  have fin : ∀ H' : Heap, H'[a]? = some (cell.setSlot f.slot v) → H'.size = H.size → (∀ q, q ≠ a → H'[q]? = H[q]?) → W p l e R s m args below meth c H' (locs ++ [⟨a, f.slot⟩]) cn sn (F s args below) (F0 m (pc + 3) ls st) := fun H' e1 e2 e3 => by
    rw [hsl] at e1 ⊢
    exact kk p l e s m args below meth c H' _ ls X (hA.set hza ⟨_, h1, t_OB.to (V := updV (vp_V fs) k v) ⟨_, e1, q2, q3, t_set q4 hap hk v⟩ (fun j _ => vp_updV_set hl v j)⟩ e2 e3) (hS.put e2 e3 hza) hL
  rcases hlk with hlk | ⟨host, hlk⟩
  · exact W.putK X.1 X.2.1 (f := f) ⟨X.2.2.2.2.1, X.2.2.2.2.2.1 _ hlk, ⟨_, _, _, hi'⟩, hst⟩ (by rw [q2]; exact h6) q1 q3 (by rw [hsl]; exact k2_hasslot (q4 k hk)) rfl rfl hd fin
  · exact va_WputK X.1 X.2.1 (f := f) X.2.2.2.2.1 (va_Nw.use rfl (zXn X hlk rfl)) hi' hst (by rw [q2]; exact h6) q1 q3 (by rw [hsl]; exact k2_hasslot (q4 k hk)) rfl rfl hd fin
def zFF (own : String) (index ci k : Nat) (t : FieldType) : Prop := ∃ (C : String) (T : u_T) (ty : Nat → FieldType) (N : Nat), zCl ci C T ty N ∧ k < N ∧ ty k = t ∧ (T k).2.2.2 = true ∧ (T k).1 = C ∧ C = own ∧ Cond.fieldLink own index C (T k).2.1 (T k).2.2.1 ∈ lw_gd
theorem z_putF {ci k index a : Nat} {t : FieldType} {fs : List Value} {v : Value} (hf : zFF M.1 index ci k t) (hd : decode (zcd M) pc = .ok (.putfield index, 3)) (he : ah a = some (.inr (ci, fs))) (hM : M.2.1.name = "<init>") (hl : k < fs.length) (hn : narrow t v = v ∧ fits t v = true) (kk : zW G M R F cn sn (pc + 3) lv st (zu ah a (.inr (ci, fs.set k v))) sz) : zW G M R F cn sn pc lv (v :: .ref a :: st) ah sz := by
  intro p l e s m args below meth c H locs ls X hA hS hL
  obtain ⟨C, T, ty, N, ⟨h1, h2, h3, h4⟩, hk, rfl, hfin, hC, hCM, hlk⟩ := hf
  obtain ⟨hza, hat⟩ := hA.2 a _ he
  have hap := va_apart (own := M.1) X.2.2.2.2.2.1 h2 ty h3 h4 X.2.2.2.2.2.2.2.2.1 h1
  obtain ⟨r, hr1, cell, q1, q2, q3, q4⟩ := hat
  have hr : r = (C, T, N) := Option.some.inj (hr1.symm.trans h1)
  subst hr
  obtain ⟨hSl, hfc, kC, hkC, hkind⟩ := X.2.2.2.2.2.2.2.2.1.1 ci _ h1
  obtain ⟨cf, kf, fi, f, hi, hsl⟩ := hSl k hk
  have hlay := X.2.2.2.2.2.1 _ (h2 _ (u_in_lay hk))
  unfold u_lay at hlay
  rw [if_pos hfin] at hlay
  have hst := (u_facts hfc hkC (u_lays X.2.2.2.2.2.1 h2 hk) hi).1
  have hcf : m.cls = cf := by
    obtain ⟨_, _, c', _, _, _, -, -, hf', -, -, -, hown2, -⟩ := Cond.laysFinal_spec hlay
    have e1 : c' = cf := by have := hi.symm.trans hf'; simp at this; exact this.1.symm
    rw [hC, hCM] at hown2
    rw [← e1]; exact Option.some.inj (X.2.2.2.2.1.symm.trans hown2)
  have h6 := u_fits hfc hkC hkind (Or.inr hlay) hi (h3 k hk) hn.1 hn.2
  have hi' : s.fieldFound? C (T k).2.1 (T k).2.2.1 = some (cf, kf, fi, f) := hC ▸ hi
  refine W.putFinK X.1 X.2.1 X.2.2.2.2.1 (X.2.2.2.2.2.1 _ hlk) hi' hst hcf (X.2.2.2.2.2.2.2.1.trans hM) (by rw [q2]; exact h6) q1 q3 (by rw [hsl]; exact k2_hasslot (q4 k hk)) rfl rfl hd fun H' e1 e2 e3 => ?_
  rw [hsl] at e1 ⊢
  exact kk p l e s m args below meth c H' _ ls X (hA.set hza ⟨_, h1, t_OB.to (V := updV (vp_V fs) k v) ⟨_, e1, q2, q3, t_set q4 hap hk v⟩ (fun j _ => vp_updV_set hl v j)⟩ e2 e3) (hS.put e2 e3 hza) hL
/-! arrays -/
theorem z_iald {n a : Nat} {f : Nat → Int32} {i : Int32} (hd : decode (zcd M) pc = .ok (.iaload, 1)) (he : ah a = some (.inl (0, n, .inl f))) (hin : vp_in i n) (kk : zW G M R F cn sn (pc + 1) lv (.int (f i.toNatClampNeg) :: st) ah sz) : zW G M R F cn sn pc lv (.int i :: .ref a :: st) ah sz := by
  intro p l e s m args below meth c H locs ls X hA hS hL
  exact va_iald X.1 X.2.1 X.2.2.2.2.2.2.2.2.1 (zP1 (hA.2 a _ he).2) 0 0 rfl (ztys_at G (by decide)) hin hd (kk p l e s m args below meth c H locs ls X hA hS hL)
theorem z_lald {n a : Nat} {f : Nat → Int64} {i : Int32} (hd : decode (zcd M) pc = .ok (.laload, 1)) (he : ah a = some (.inl (1, n, .inr (.inl f)))) (hin : vp_in i n) (kk : zW G M R F cn sn (pc + 1) lv (.long (f i.toNatClampNeg) :: st) ah sz) : zW G M R F cn sn pc lv (.int i :: .ref a :: st) ah sz := by
  intro p l e s m args below meth c H locs ls X hA hS hL
  exact va_lald X.1 X.2.1 X.2.2.2.2.2.2.2.2.1 (zP1 (hA.2 a _ he).2) 0 1 rfl (ztys_at G (by decide)) hin hd (kk p l e s m args below meth c H locs ls X hA hS hL)
theorem z_bald {n a : Nat} {f : Nat → Int32} {i : Int32} (hd : decode (zcd M) pc = .ok (.baload, 1)) (he : ah a = some (.inl (2, n, .inl f))) (hin : vp_in i n) (kk : zW G M R F cn sn (pc + 1) lv (.int (f i.toNatClampNeg) :: st) ah sz) : zW G M R F cn sn pc lv (.int i :: .ref a :: st) ah sz := by
  intro p l e s m args below meth c H locs ls X hA hS hL
  exact va_bald X.1 X.2.1 X.2.2.2.2.2.2.2.2.1 (zP1 (hA.2 a _ he).2) 0 2 rfl (ztys_at G (by decide)) hin hd (kk p l e s m args below meth c H locs ls X hA hS hL)
theorem z_aald {k n a b : Nat} {f : Nat → Option Nat} {i : Int32} (hk : k < 7 ∧ (zT k).isReference = true) (hd : decode (zcd M) pc = .ok (.aaload, 1)) (he : ah a = some (.inl (k, n, .inr (.inr (.inr (.inr f)))))) (hin : vp_in i n) (hf : f i.toNatClampNeg = some b) (kk : zW G M R F cn sn (pc + 1) lv (.ref b :: st) ah sz) : zW G M R F cn sn pc lv (.int i :: .ref a :: st) ah sz := by
  intro p l e s m args below meth c H locs ls X hA hS hL
  have hlt : i.toNatClampNeg < n := Nat.not_le.mp fun q => hin (Or.inr q)
  have hP : H[a]? = some (vp_cell (G.1.2 k) (n, .inr (.inr (.inr (.inr f))))) := (hA.2 a _ he).2
  refine W.aald (v := .ref b) (ty := zT k) X.1 X.2.1 hP ((X.2.2.2.2.2.2.2.2.1.2 k _ (ztys_at G hk.1)).1 n (fun j => va_rf (f j))) hk.2 (fun q => by cases q) ?_ ?_ rfl rfl hd (kk p l e s m args below meth c H locs ls X hA hS hL)
  · show ¬ (i < 0 ∨ (arrV _ _ _).slots.size ≤ _); rw [arrV_size]; exact hin
  · show (arrV _ _ _).slots[_]? = _; rw [arrV_read _ _ hlt, hf]; rfl
theorem z_iast {n a : Nat} {f : Nat → Int32} {i x : Int32} (hd : decode (zcd M) pc = .ok (.iastore, 1)) (he : ah a = some (.inl (0, n, .inl f))) (hin : vp_in i n) (kk : zW G M R F cn sn (pc + 1) lv st (zu ah a (.inl (0, n, .inl (upd f i.toNatClampNeg x)))) sz) : zW G M R F cn sn pc lv (.int x :: .int i :: .ref a :: st) ah sz := by
  intro p l e s m args below meth c H locs ls X hA hS hL
  obtain ⟨hza, hat⟩ := hA.2 a _ he
  have hP : H[a]? = some (vp_cell (G.1.2 0) (n, .inl f)) := hat
  refine W.iast X.1 X.2.1 hP ((X.2.2.2.2.2.2.2.2.1.2 0 _ (ztys_at G (by decide))).1 n (fun j => .int (f j))) (fun q => by cases q) (by show ¬ (i < 0 ∨ (arrV _ _ _).slots.size ≤ _); rw [arrV_size]; exact hin) rfl rfl hd fun H1 e1 z oq => ?_
  refine kk p l e s m args below meth c H1 _ ls X (hA.set hza ?_ z oq) (hS.put z oq hza) hL
  show H1[a]? = some (vp_cell _ _)
  rw [e1, vp_cell_i, vp_cell_i, arrV_store]
  congr 2
  funext q
  by_cases hq : q = i.toNatClampNeg
  · subst hq
    simp [updV, upd]
  · simp [updV, upd, hq]
theorem z_bast {n a : Nat} {f : Nat → Int32} {i x : Int32} (hd : decode (zcd M) pc = .ok (.bastore, 1)) (he : ah a = some (.inl (2, n, .inl f))) (hin : vp_in i n) (kk : zW G M R F cn sn (pc + 1) lv st (zu ah a (.inl (2, n, .inl (upd f i.toNatClampNeg x.toInt8.toInt32)))) sz) : zW G M R F cn sn pc lv (.int x :: .int i :: .ref a :: st) ah sz := by
  intro p l e s m args below meth c H locs ls X hA hS hL
  obtain ⟨hza, hat⟩ := hA.2 a _ he
  have hP : H[a]? = some (vp_cell (G.1.2 2) (n, .inl f)) := hat
  refine W.bast X.1 X.2.1 hP ((X.2.2.2.2.2.2.2.2.1.2 2 _ (ztys_at G (by decide))).1 n (fun j => .int (f j))) (fun q => by cases q) (by show ¬ (i < 0 ∨ (arrV _ _ _).slots.size ≤ _); rw [arrV_size]; exact hin) rfl rfl hd fun H1 e1 z oq => ?_
  refine kk p l e s m args below meth c H1 _ ls X (hA.set hza ?_ z oq) (hS.put z oq hza) hL
  show H1[a]? = some (vp_cell _ _)
  rw [e1, vp_cell_i, vp_cell_i, arrV_store]
  congr 2
  funext q
  by_cases hq : q = i.toNatClampNeg
  · subst hq
    simp [updV, upd, narrow]
  · simp [updV, upd, hq]
theorem z_last {n a : Nat} {f : Nat → Int64} {i : Int32} {x : Int64} (hd : decode (zcd M) pc = .ok (.lastore, 1)) (he : ah a = some (.inl (1, n, .inr (.inl f)))) (hin : vp_in i n) (kk : zW G M R F cn sn (pc + 1) lv st (zu ah a (.inl (1, n, .inr (.inl (vp_updL f i.toNatClampNeg x))))) sz) : zW G M R F cn sn pc lv (.long x :: .int i :: .ref a :: st) ah sz := by
  intro p l e s m args below meth c H locs ls X hA hS hL
  obtain ⟨hza, hat⟩ := hA.2 a _ he
  have hP : H[a]? = some (vp_cell (G.1.2 1) (n, .inr (.inl f))) := hat
  refine W.last X.1 X.2.1 hP ((X.2.2.2.2.2.2.2.2.1.2 1 _ (ztys_at G (by decide))).1 n (fun j => .long (f j))) (fun q => by cases q) (by show ¬ (i < 0 ∨ (arrV _ _ _).slots.size ≤ _); rw [arrV_size]; exact hin) rfl rfl hd fun H1 e1 z oq => ?_
  refine kk p l e s m args below meth c H1 _ ls X (hA.set hza ?_ z oq) (hS.put z oq hza) hL
  show H1[a]? = some (vp_cell _ _)
  rw [e1, vp_cell_l, vp_cell_l, arrV_store]
  congr 2
  funext q
  by_cases hq : q = i.toNatClampNeg
  · subst hq
    simp [updV, vp_updL]
  · simp [updV, vp_updL, hq]
theorem z_aast {k n a v ci : Nat} {f : Nat → Option Nat} {fs : List Value} {i : Int32} (hk : k < 7) {C : String} (hkC : zT k = .object C ∧ (vwCl[ci]?).map (·.1) = some C) (hd : decode (zcd M) pc = .ok (.aastore, 1)) (he : ah a = some (.inl (k, n, .inr (.inr (.inr (.inr f)))))) (hv : ah v = some (.inr (ci, fs))) (hin : vp_in i n) (kk : zW G M R F cn sn (pc + 1) lv st (zu ah a (.inl (k, n, .inr (.inr (.inr (.inr (va_up f i.toNatClampNeg (some v)))))))) sz) : zW G M R F cn sn pc lv (.ref v :: .int i :: .ref a :: st) ah sz := by
  intro p l e s m args below meth c H locs ls X hA hS hL
  obtain ⟨hza, hat⟩ := hA.2 a _ he
  have hP : H[a]? = some (vp_cell (G.1.2 k) (n, .inr (.inr (.inr (.inr f))))) := hat
  have hlt : i.toNatClampNeg < n := Nat.not_le.mp fun q => hin (Or.inr q)
  have h0 : ¬ i < 0 := fun q => hin (Or.inl q)
  obtain ⟨r, hr1, cellV, g1, g2, g3, -⟩ := (hA.2 v _ hv).2
  have hr : r.1 = C := by
    have := hkC.2
    rw [hr1] at this
    exact Option.some.inj this
  have hcls := (X.2.2.2.2.2.2.2.2.1.1 ci r hr1).2
  have hra := (X.2.2.2.2.2.2.2.2.1.2 k _ (ztys_at G hk)).2
  rw [hkC.1] at hra
  obtain ⟨kA, comp, k1, k2, k3, -⟩ := hra
  have hcomp : comp = G.1.1.1 ci := Option.some.inj (k3.symm.trans (hr ▸ hcls.1))
  subst hcomp
  obtain ⟨kC, hkC2, -⟩ := hcls.2
  refine W.aast X.1 X.2.1 hP (fun q h => by cases h) (fun h => by cases h) k1 k2 rfl hkC2 ⟨h0, by show _ < (arrV _ _ _).slots.size; rw [arrV_size]; exact hlt⟩ g1 (fun q h => by rw [g3] at h; cases h) (by rw [g2]; exact hkC2) (by rw [g2]; exact va_assign hcls) rfl rfl hd fun H1 e1 z oq => ?_
  refine kk p l e s m args below meth c H1 _ ls X (hA.set hza ?_ z oq) (hS.put z oq hza) hL
  show H1[a]? = some (vp_cell _ _)
  rw [e1, vp_cell_q, vp_cell_q, arrV_store]
  congr 2
  funext q
  by_cases hq : q = i.toNatClampNeg
  · subst hq
    simp [updV, va_up, va_rf]
  · simp [updV, va_up, hq]
theorem z_alen {k a : Nat} {x : vp_A} (v : Int32) (hd : decode (zcd M) pc = .ok (.arraylength, 1)) (hk : k < 7) (he : ah a = some (.inl (k, x))) (hv : Int32.ofNat x.1 = v) (kk : zW G M R F cn sn (pc + 1) lv (.int v :: st) ah sz) : zW G M R F cn sn pc lv (.ref a :: st) ah sz := by
  intro p l e s m args below meth c H locs ls X hA hS hL
  exact va_alen X.1 X.2.1 X.2.2.2.2.2.2.2.2.1 (zP1 (hA.2 a _ he).2) 0 k rfl (ztys_at G hk) hv hd (kk p l e s m args below meth c H locs ls X hA hS hL)
/-! the law's script, the literals, a static -/
theorem z_sld {i : Int32} (hd : decode (zcd M) pc = .ok (.iaload, 1)) (hin : vp_in i (zbL G)) (kk : zW G M R F cn sn (pc + 1) lv (.int (zbx G i.toNatClampNeg) :: st) ah sz) : zW G M R F cn sn pc lv (.int i :: .ref (zb G) :: st) ah sz := by
  intro p l e s m args below meth c H locs ls X hA hS hL
  have hK := X.2.2.2.2.2.2.2.2
  have hbz := hK.2.2.2.2.1.2
  exact va_sld X.1 X.2.1 hK.2.2.2.2.1.1 (Nat.lt_of_lt_of_le hbz hK.2.2.2.2.2.1) (Nat.not_le.mpr hbz) hS hin hd (kk p l e s m args below meth c H locs ls X hA hS hL)
theorem z_slen (hd : decode (zcd M) pc = .ok (.arraylength, 1)) (kk : zW G M R F cn sn (pc + 1) lv (.int (Int32.ofNat (zbL G)) :: st) ah sz) : zW G M R F cn sn pc lv (.ref (zb G) :: st) ah sz := by
  intro p l e s m args below meth c H locs ls X hA hS hL
  have hK := X.2.2.2.2.2.2.2.2
  have hbz := hK.2.2.2.2.1.2
  exact va_slen X.1 X.2.1 hK.2.2.2.2.1.1 (Nat.lt_of_lt_of_le hbz hK.2.2.2.2.2.1) (Nat.not_le.mpr hbz) hS hd (kk p l e s m args below meth c H locs ls X hA hS hL)
theorem z_gets {index : Nat} (hl : Cond.fieldLink M.1 index "java/lang/String" "COMPACT_STRINGS" "Z" ∈ lw_gd) (hd : decode (zcd M) pc = .ok (.getstatic index, 3)) (kk : zW G M R F cn sn (pc + 3) lv (.int 1 :: st) ah sz) : zW G M R F cn sn pc lv st ah sz := by
  intro p l e s m args below meth c H locs ls X hA hS hL
  exact va_gets X.1 X.2.1 X.2.2.2.2.2.2.2.2.2.1 hS X.2.2.2.2.1 (X.2.2.2.2.2.1 _ hl) (fun _ h => h) hd (kk p l e s m args below meth c H locs ls X hA hS hL)
theorem z_getsF {index : Nat} (hl : Cond.fieldLink M.1 index "jdk/internal/util/Preconditions" "SIOOBE_FORMATTER" "Ljava/util/function/BiFunction;" ∈ lw_gd) (hd : decode (zcd M) pc = .ok (.getstatic index, 3)) (kk : (zfv G).category = 1 → zW G M R F cn sn (pc + 3) lv (zfv G :: st) ah sz) : zW G M R F cn sn pc lv st ah sz := by
  intro p l e s m args below meth c H locs ls X hA hS hL
  exact va_gets X.1 X.2.1 X.2.2.2.2.2.2.2.2.2.2.2.2.2.2.1 hS X.2.2.2.2.1 (X.2.2.2.2.2.1 _ hl) (fun _ h => h) hd (kk X.2.2.2.2.2.2.2.2.2.2.2.2.2.2.2.1 p l e s m args below meth c H locs ls X hA hS hL)
theorem z_getSv {index i : Nat} (hi : i < 7) (hl : Cond.fieldLink M.1 index "java/lang/String" "value" "[B" ∈ lw_gd) (hd : decode (zcd M) pc = .ok (.getfield index, 3)) (kk : zW G M R F cn sn (pc + 3) lv (.ref (zsV G i) :: st) ah sz) : zW G M R F cn sn pc lv (.ref (zsK G i) :: st) ah sz := by
  intro p l e s m args below meth c H locs ls X hA hS hL
  exact vk_getf X.1 X.2.1 (X.2.2.2.2.2.2.2.2.2.2.1.1 i hi).2.2.1 hS X.2.2.2.2.1 (X.2.2.2.2.2.1 _ hl) (fun _ h => h) hd (kk p l e s m args below meth c H locs ls X hA hS hL)
theorem z_getSc {index i : Nat} (hi : i < 7) (hl : Cond.fieldLink M.1 index "java/lang/String" "coder" "B" ∈ lw_gd) (hd : decode (zcd M) pc = .ok (.getfield index, 3)) (kk : zW G M R F cn sn (pc + 3) lv (.int 0 :: st) ah sz) : zW G M R F cn sn pc lv (.ref (zsK G i) :: st) ah sz := by
  intro p l e s m args below meth c H locs ls X hA hS hL
  exact vk_getf X.1 X.2.1 (X.2.2.2.2.2.2.2.2.2.2.1.1 i hi).2.1 hS X.2.2.2.2.1 (X.2.2.2.2.2.1 _ hl) (fun _ h => h) hd (kk p l e s m args below meth c H locs ls X hA hS hL)
theorem z_baldS {i : Nat} {j : Int32} (hi : i < 7) (hd : decode (zcd M) pc = .ok (.baload, 1)) (hin : vp_in j (zlen.getD i 0)) (kk : zW G M R F cn sn (pc + 1) lv (.int ((zbyt.getD i []).getD j.toNatClampNeg 0) :: st) ah sz) : zW G M R F cn sn pc lv (.int j :: .ref (zsV G i) :: st) ah sz := by
  intro p l e s m args below meth c H locs ls X hA hS hL
  exact va_tb X.1 X.2.1 (X.2.2.2.2.2.2.2.2.2.2.1.1 i hi).2.2.2 hS hin rfl hd (kk p l e s m args below meth c H locs ls X hA hS hL)
theorem z_alenS {i : Nat} (v : Int32) (hi : i < 7) (hv : Int32.ofNat (zlen.getD i 0) = v) (hd : decode (zcd M) pc = .ok (.arraylength, 1)) (kk : zW G M R F cn sn (pc + 1) lv (.int v :: st) ah sz) : zW G M R F cn sn pc lv (.ref (zsV G i) :: st) ah sz := by
  intro p l e s m args below meth c H locs ls X hA hS hL
  exact va_tlen X.1 X.2.1 (X.2.2.2.2.2.2.2.2.2.2.1.1 i hi).2.2.2 hS hv hd (kk p l e s m args below meth c H locs ls X hA hS hL)
/-! new cells -/
theorem z_new {ci index N : Nat} {C : String} {fs : List Value} (hf : ∃ (T : u_T) (ty : Nat → FieldType), zCl ci C T ty N ∧ ∀ j, j < N → defaultValue (ty j) = vp_V fs j) (hl : Cond.classLink M.1 index C ∈ lw_gd ∧ Cond.instantiable C N ∈ lw_gd ∧ Cond.initialized C ∈ lw_gd) (hd : decode (zcd M) pc = .ok (.new index, 3)) (hr : cn + 1 ≤ R.cells ∧ sn + N ≤ R.slots)
    (kk : zW G M R F (cn + 1) (sn + N) (pc + 3) lv (.ref sz :: st) (zu ah sz (.inr (ci, fs))) (sz + 1)) : zW G M R F cn sn pc lv st ah sz := by
  intro p l e s m args below meth c H locs ls X hA hS hL
  obtain ⟨T, ty, ⟨h1, h2, h3, h4⟩, hfs⟩ := hf
  have hKn := X.2.2.2.2.2.2.2.2.1.1 ci _ h1
  have hzz : zz G ≤ H.size := Nat.le_trans X.2.2.2.2.2.2.2.2.2.2.2.2.2.1 hS.1
  refine W.newcK X.1 X.2.1 X.2.2.2.2.1 (X.2.2.2.2.2.1 _ hl.1) (X.2.2.2.2.2.1 _ hl.2.1) (X.2.2.2.2.2.1 _ hl.2.2) rfl hd hr.1 hr.2 hKn.2.1 hA.1 fun H1 kC hkC e1 z1 o1 => ?_
  refine kk p l e s m args below meth c H1 locs ls X (hA.new hzz ⟨_, h1, (u_born ty X.2.2.2.2.2.1 h2 hKn hkC e1 h3).to hfs⟩ z1 o1) ⟨Nat.le_trans hS.1 (by rw [z1, hA.1]; omega), fun q g1 g2 => (o1 q (by rw [← hA.1]; exact Nat.lt_of_lt_of_le g1 hS.1)).trans (hS.2.1 q g1 g2), hS.2.2⟩ hL
theorem z_newa {k N : Nat} {atype : ArrayType} {a0 : vp_A} {n : Int32} (hl : Cond.arrayClass (newarray.typeOf atype) ∈ lw_gd) (hk : k < 3 ∧ zT k = newarray.typeOf atype) (ha : ∀ cA : ClassId, vp_cell cA a0 = arrV cA N (fun _ => defaultValue (newarray.typeOf atype))) (hn : ¬ n < 0 ∧ n.toNatClampNeg = N) (hb : N * componentBytes (newarray.typeOf atype) ≤ 536870912) (hd : decode (zcd M) pc = .ok (.newarray atype, 2)) (hr : cn + 1 ≤ R.cells ∧ sn + N ≤ R.slots)
    (kk : zW G M R F (cn + 1) (sn + N) (pc + 2) lv (.ref sz :: st) (zu ah sz (.inl (k, a0))) (sz + 1)) : zW G M R F cn sn pc lv (.int n :: st) ah sz := by
  intro p l e s m args below meth c H locs ls X hA hS hL
  have hzz : zz G ≤ H.size := Nat.le_trans X.2.2.2.2.2.2.2.2.2.2.2.2.2.1 hS.1
  refine va_newaK X.1 X.2.1 (X.2.2.2.2.2.1 _ hl) rfl hd rfl hn.1 hn.2 hb hr.1 hr.2 hA.1 fun H1 cA e1 z1 o1 _ hNm => ?_
  have hra := (X.2.2.2.2.2.2.2.2.1.2 k _ (ztys_at G (Nat.lt_trans hk.1 (by decide)))).2
  have hcA : cA = G.1.2 k := by
    have h9 : s.vm.findClass ("[" ++ (zT k).toString) = some (G.1.2 k) := by
      match k, hk with
      | 0, _ => exact hra
      | 1, _ => exact hra
      | 2, _ => exact hra
      | k + 3, hk => omega
    rw [hk.2] at h9
    exact Option.some.inj (hNm.symm.trans h9)
  subst hcA
  refine kk p l e s m args below meth c H1 locs ls X (hA.new hzz (show H1[sz]? = some (vp_cell _ _) by rw [ha]; exact e1) z1 o1) ⟨Nat.le_trans hS.1 (by rw [z1, hA.1]; omega), fun q g1 g2 => (o1 q (by rw [← hA.1]; exact Nat.lt_of_lt_of_le g1 hS.1)).trans (hS.2.1 q g1 g2), hS.2.2⟩ hL
theorem z_anew {k N index : Nat} {C : String} {n : Int32} (hl : Cond.classLink M.1 index C ∈ lw_gd ∧ Cond.arrayOver (.object C) ∈ lw_tbl) (hk : k < 7 ∧ zT k = .object C) (hn : ¬ n < 0 ∧ n.toNatClampNeg = N) (hb : N * 4 ≤ 536870912) (hd : decode (zcd M) pc = .ok (.anewarray index, 3)) (hr : cn + 1 ≤ R.cells ∧ sn + N ≤ R.slots)
    (kk : zW G M R F (cn + 1) (sn + N) (pc + 3) lv (.ref sz :: st) (zu ah sz (.inl (k, N, .inr (.inr (.inr (.inr (fun _ => none))))))) (sz + 1)) : zW G M R F cn sn pc lv (.int n :: st) ah sz := by
  intro p l e s m args below meth c H locs ls X hA hS hL
  obtain ⟨hn0, rfl⟩ := hn
  obtain ⟨rfl, hA2⟩ := hA
  have hzz : zz G ≤ H.size := Nat.le_trans X.2.2.2.2.2.2.2.2.2.2.2.2.2.1 hS.1
  refine W.anew X.1 X.2.1 X.2.2.2.2.1 (X.2.2.2.2.2.1 _ hl.1) (va_AO.use (X.2.2.2.2.2.2.2.2.2.2.2.2.2.2.2.2.2 (.object C) hl.2)) rfl hd rfl hn0 hb hr.1 hr.2 fun cA kA comp f1 f2 f3 f4 => ?_
  generalize hH1 : H.push ({ cls := cA, slots := Array.replicate n.toNatClampNeg .null, vm := .none } : Cell) = H1
  have z1 : H1.size = H.size + 1 := by rw [← hH1, Array.size_push]
  have e1 : H1[H.size]? = some (arrV cA n.toNatClampNeg (fun _ => .null)) := by rw [← hH1, Array.getElem?_push_size, ← arrV_new]
  have o1 : ∀ q : Nat, q < H.size → H1[q]? = H[q]? := fun q hq => by rw [← hH1, Array.getElem?_push, if_neg (Nat.ne_of_lt hq)]
  have hra := (X.2.2.2.2.2.2.2.2.1.2 k _ (ztys_at G hk.1)).2
  rw [hk.2] at hra
  obtain ⟨kA', comp', g1, g2, g3, g4⟩ := hra
  have hcA : cA = G.1.2 k := Option.some.inj (f1.symm.trans g4)
  subst hcA
  refine kk p l e s m args below meth c H1 locs ls X (zA.new ⟨rfl, hA2⟩ hzz (show H1[H.size]? = some (vp_cell _ _) from e1) z1 o1) ⟨Nat.le_trans hS.1 (by rw [z1]; omega), fun q g1 g2 => (o1 q (Nat.lt_of_lt_of_le g1 hS.1)).trans (hS.2.1 q g1 g2), hS.2.2⟩ hL
theorem z_objInit {index a : Nat} (hl : Cond.methodLink M.1 index Lib.objectInit ∈ lw_gd ∧ Cond.instanceMethod Lib.objectInit ∈ lw_gd ∧ Cond.code Lib.objectInit ⟨#[0xb1]⟩ 1 none ∈ lw_gd) (hd : decode (zcd M) pc = .ok (.invokespecial index, 3)) (hr : 1 ≤ R.frames ∧ (st.map fun v => v.category).sum + 12 ≤ R.locals) (kk : zW G M R F cn sn (pc + 3) lv st ah sz) : zW G M R F cn sn pc lv (.ref a :: st) ah sz := by
  intro p l e s m args below meth c H locs ls X hA hS hL
  exact W.objInit X.1 X.2.1 X.2.2.2.2.1 (X.2.2.2.2.2.1 _ hl.1) (X.2.2.2.2.2.1 _ hl.2.1) (X.2.2.2.2.2.1 _ hl.2.2) rfl (by rw [X.2.2.2.1]; exact hL.1) rfl hd hr.1 (by show 2 * 0 + _ + 12 ≤ _; omega) (kk p l e s m args below meth c H locs ls X hA hS hL)
/-! returns -/
section ZRet
variable {Q : zPost} {mc ms : Nat}
theorem z_ireturn {v : Int32} {t : FieldType} (hd : decode (zcd M) pc = .ok (.ireturn, 1)) (hr : zrt M = some t) (hn : narrow t (.int v) = .int v) (hc : cn ≤ mc ∧ sn ≤ ms) (hq : Q (some (.int v)) ah sz) : zW G M R (zFm G Q mc ms) cn sn pc lv [.int v] ah sz := by
  intro p l e s m args below meth c H locs ls X hA hS hL
  refine W.widen hc.1 hc.2 ?_
  exact W.zret X.1 X.2.1 (X.2.2.1.trans hr) hn (fun t ht _ => ⟨⟨_, ah, sz, rfl, hq, by rw [ht]; exact hA⟩, hS.F ht⟩) hS.2.2 hd X.2.2.2.2.2.2.1
theorem z_lreturn {v : Int64} (hd : decode (zcd M) pc = .ok (.lreturn, 1)) (hr : zrt M = some .long) (hc : cn ≤ mc ∧ sn ≤ ms) (hq : Q (some (.long v)) ah sz) : zW G M R (zFm G Q mc ms) cn sn pc lv [.long v] ah sz := by
  intro p l e s m args below meth c H locs ls X hA hS hL
  refine W.widen hc.1 hc.2 ?_
  exact W.lret X.1 X.2.1 (X.2.2.1.trans hr) (fun t ht _ => ⟨⟨_, ah, sz, rfl, hq, by rw [ht]; exact hA⟩, hS.F ht⟩) hS.2.2 hd X.2.2.2.2.2.2.1
theorem z_areturn {a : Nat} {C : String} (hd : decode (zcd M) pc = .ok (.areturn, 1)) (hr : zrt M = some (.object C)) (hc : cn ≤ mc ∧ sn ≤ ms) (hq : Q (some (.ref a)) ah sz) : zW G M R (zFm G Q mc ms) cn sn pc lv [.ref a] ah sz := by
  intro p l e s m args below meth c H locs ls X hA hS hL
  refine W.widen hc.1 hc.2 ?_
  exact W.aret X.1 X.2.1 (X.2.2.1.trans hr) (Or.inl ⟨C, rfl⟩) (Or.inr ⟨a, rfl⟩) (fun t ht _ => ⟨⟨_, ah, sz, rfl, hq, by rw [ht]; exact hA⟩, hS.F ht⟩) hS.2.2 hd X.2.2.2.2.2.2.1
theorem z_return (hd : decode (zcd M) pc = .ok (.return_, 1)) (hr : zrt M = none) (hc : cn ≤ mc ∧ sn ≤ ms) (hq : Q none ah sz) : zW G M R (zFm G Q mc ms) cn sn pc lv [] ah sz := by
  intro p l e s m args below meth c H locs ls X hA hS hL
  refine W.widen hc.1 hc.2 ?_
  exact W.vret X.1 X.2.1 (X.2.2.1.trans hr) (fun t ht _ => ⟨⟨_, ah, sz, rfl, hq, by rw [ht]; exact hA⟩, hS.F ht⟩) hS.2.2 hd X.2.2.2.2.2.2.1
end ZRet
/-! calls -/
theorem zPc_blind {av : List Value} : FrameBlind (zPc G av ah sz) := fun a U g mk h => ⟨h.1, h.2.1, zK.same (s := U) rfl h.2.2⟩
theorem z_goes {M' : zM} {d' mc ms : Nat} {a : Array Value} {st0 rest : List Value} {Q : zPost} {p : Program} {l : Launch} {e : Env} {s : State} {m : MethodId} {args : Array Value} {below : List Frame} {meth : Method} {c : Code} {H : Heap} {locs : List Loc} {ls : Array Slot}
    (hr : va_Run p l e R s m args below meth c H locs cn sn mc ms (F0 m pc ls st0) rest (zQ G Q a) (zB G)) (hS : va_S (zB G) s.heap H locs)
    (kk : ∀ (r : Option Value) (ah' : zH) (sz' : Nat) (H1 : Heap) (locs1 : List Loc), Q r ah' sz' → zA G sz' ah' H1 → va_S (zB G) s.heap H1 locs1 → W p l e R s m args below meth c H1 locs1 (cn + mc) (sn + ms) (F s args below) (F0 m (pc + 3) ls (r.toList ++ rest))) :
    W p l e R s m args below meth c H locs cn sn (F s args below) (F0 m pc ls st0) := by
  intro T hT X
  obtain ⟨v, st₀, t, T', L, h0, X', hL, e1, e2, ⟨⟨r, ah', sz', hv, hq, hA'⟩, hz, hk⟩, st⟩ := hr T hT X
  cases hv
  rw [h0] at hz hk
  obtain ⟨t2, a1, b1⟩ := kk v ah' sz' T'.heap (locs ++ L) hq (by rw [e1]; exact hA')
    ⟨Nat.le_trans hS.1 (by rw [e1]; exact hz), fun q h1 h2 => by rw [e1, hk q (Nat.lt_of_lt_of_le h1 hS.1) h2]; exact hS.2.1 q h1 h2, fun q hq => by
      rcases List.mem_append.mp hq with h | h
      · exact hS.2.2 q h
      · exact hL q h⟩ T' rfl X'
  exact ⟨t2, st t2 a1, b1⟩
theorem lw_good : GoodIn lw_gd lw_gd := fun w h => ⟨h, good_of_word (List.mem_filter.mp h).2⟩
/-- a call's link, but for its kind -/
def zLk (own : String) (index : Nat) (M' : zM) (n : Nat) : Prop := Cond.code M'.2.1 (zcd M') (zml M') (zrt M') ∈ lw_gd ∧ Cond.initialized M'.2.1.cls ∈ lw_gd ∧ (M'.2.1.cls ≠ "java/lang/invoke/MethodHandle" ∧ M'.2.1.cls ≠ "java/lang/invoke/VarHandle" ∧ (parseMethodDescriptor M'.2.1.desc).map (fun d => d.parameters.length) = some n)
def zLV (own : String) (index : Nat) (M' : zM) (ci n : Nat) : Prop := zLk own index M' n ∧ Cond.methodLink own index M'.2.1 ∈ lw_gd ∧ Cond.instanceMethod M'.2.1 ∈ lw_gd ∧ Cond.selects M'.2.1.cls M'.2.1 M'.2.1 ∈ lw_gd ∧ (vwCl[ci]?).map (·.1) = some M'.2.1.cls
def zLS (own : String) (index : Nat) (M' : zM) (n : Nat) : Prop := zLk own index M' n ∧ Cond.methodLink own index M'.2.1 ∈ lw_gd ∧ Cond.static M'.2.1 ∈ lw_gd
def zLI (own : String) (index : Nat) (M' : zM) (n : Nat) : Prop := zLk own index M' n ∧ (Cond.methodLink own index M'.2.1 ∈ lw_gd ∨ ∃ host, Cond.methodLinkNest own index M'.2.1 host ∈ lw_tbl) ∧ Cond.instanceMethod M'.2.1 ∈ lw_gd ∧ M'.2.1.name = "<init>" ∧ zrt M' = none
theorem zGoodC {M' : zM} (h : Cond.code M'.2.1 (zcd M') (zml M') (zrt M') ∈ lw_gd) : GoodIn lw_gd (Cond.code M'.2.1 (zcd M') (zml M') (zrt M') :: lw_gd) := fun w hw => by
  rcases List.mem_cons.mp hw with rfl | hw
  · exact lw_good _ h
  · exact lw_good _ hw
theorem zK.call {p : Program} {s U : State} {m : MethodId} {args : Array Value} {meth : Method} {c : Code} {H : Heap} {locs : List Loc} (X : zX G M p s m args meth c) (hS : va_S (zB G) s.heap H locs) (hU : U.heap = H) (hW : s.WarmedH U.vm) : zK G U U.heap := by
  rw [hU]
  exact (X.2.2.2.2.2.2.2.2.kept hS.1 hS.2.1).warm hW
abbrev zRR (R : Room) (M' : zM) (d' mc ms cn sn : Nat) : Prop := (d' + 1 ≤ R.frames ∧ 8 + (zml M' + 11) + 40 * d' ≤ R.locals) ∧ cn + mc ≤ R.cells ∧ sn + ms ≤ R.slots
theorem z_callV {M' : zM} {d' mc ms n ci index b : Nat} {fs As rest : List Value} {Q : zPost} (hlk : zLV M.1 index M' ci n) (hc : zC G M' d' mc ms (.ref b :: As) ah sz Q) (hb : ah b = some (.inr (ci, fs))) (hd : decode (zcd M) pc = .ok (.invokevirtual index, 3)) (hst : st = As.reverse ++ .ref b :: rest) (hn : As.length = n) (hro : (rest.map fun v => v.category).sum ≤ 8) (hR : zRR R M' d' mc ms cn sn)
    (k : ∀ (r : Option Value) (ah' : zH) (sz' : Nat), Q r ah' sz' → zW G M R F (cn + mc) (sn + ms) (pc + 3) lv (r.toList ++ rest) ah' sz') : zW G M R F cn sn pc lv st ah sz := by
  intro p l e s m args below meth c H locs ls X hA hS hL
  obtain ⟨⟨h1, h2, h3⟩, h4, h5, h6, h7⟩ := hlk
  have ok : ∀ w ∈ lw_gd, w.before args s = true := X.2.2.2.2.2.1
  have cb := callB_of (R := R) (own := M.1) (index := index) (y := M'.2.1) (bytes := zcd M') (maxL := zml M') (ret := zrt M') (rm := zRm d' mc ms) (mc := mc) (ms := ms) n ok (zGoodC h1) rfl rfl rfl (ok _ h2) (ok _ h4) h3 hR.1
  obtain ⟨r, g1, cell, g2, g3, g4, -⟩ := (hA.2 b _ hb).2
  have hr : r.1 = M'.2.1.cls := by rw [g1] at h7; exact Option.some.inj h7
  have hrc : ∃ cellB : Cell, H[b]? = some cellB ∧ cellB.vm.isStatics = false ∧ s.vm.findClass M'.2.1.cls = some cellB.cls := ⟨cell, g2, by rw [g4]; rfl, by rw [g3, ← hr]; exact (X.2.2.2.2.2.2.2.2.1.1 ci r g1).2.1⟩
  refine z_goes (M' := M') (d' := d') (va_runV (As := As) (rest := rest) ⟨X.1, X.2.1, X.2.2.2.1, X.2.2.2.2.1, ok⟩ (hc l) ⟨cb, ok _ h5, ok _ h6⟩ ⟨zPc_blind, hrc, fun U hU hW => ⟨rfl, by rw [hU]; exact hA, zK.call X hS hU hW⟩⟩ rfl hn hL.1 hst (lv_room hro) hd hR.2) hS (fun r ah' sz' H1 locs1 hq hA1 hS1 => ?_)
  exact k r ah' sz' hq p l e s m args below meth c H1 locs1 ls X hA1 hS1 hL
theorem z_callVS {M' : zM} {d' n i index : Nat} {As rest : List Value} {Q : zPost} (hi : i < 7) (hcl : M'.2.1.cls = "java/lang/String") (hlk : zLk M.1 index M' n ∧ Cond.methodLink M.1 index M'.2.1 ∈ lw_gd ∧ Cond.instanceMethod M'.2.1 ∈ lw_gd ∧ Cond.selects M'.2.1.cls M'.2.1 M'.2.1 ∈ lw_gd) (hc : zC G M' d' 0 0 (.ref (zsK G i) :: As) ah sz Q) (hd : decode (zcd M) pc = .ok (.invokevirtual index, 3)) (hst : st = As.reverse ++ .ref (zsK G i) :: rest) (hn : As.length = n) (hro : (rest.map fun v => v.category).sum ≤ 8) (hR : zRR R M' d' 0 0 cn sn)
    (k : ∀ (r : Option Value) (ah' : zH) (sz' : Nat), Q r ah' sz' → zW G M R F cn sn (pc + 3) lv (r.toList ++ rest) ah' sz') : zW G M R F cn sn pc lv st ah sz := by
  intro p l e s m args below meth c H locs ls X hA hS hL
  obtain ⟨⟨h1, h2, h3⟩, h4, h5, h6⟩ := hlk
  have ok : ∀ w ∈ lw_gd, w.before args s = true := X.2.2.2.2.2.1
  have cb := callB_of (R := R) (own := M.1) (index := index) (y := M'.2.1) (bytes := zcd M') (maxL := zml M') (ret := zrt M') (rm := zRm d' 0 0) (mc := 0) (ms := 0) n ok (zGoodC h1) rfl rfl rfl (ok _ h2) (ok _ h4) h3 hR.1
  have hrc : ∃ cellB : Cell, H[zsK G i]? = some cellB ∧ cellB.vm.isStatics = false ∧ s.vm.findClass M'.2.1.cls = some cellB.cls := by rw [hcl]; exact vk_recv X.2.2.2.2.2.2.2.2.2.2.1 hi hS
  refine z_goes (M' := M') (d' := d') (va_runV (As := As) (rest := rest) ⟨X.1, X.2.1, X.2.2.2.1, X.2.2.2.2.1, ok⟩ (hc l) ⟨cb, ok _ h5, ok _ h6⟩ ⟨zPc_blind, hrc, fun U hU hW => ⟨rfl, by rw [hU]; exact hA, zK.call X hS hU hW⟩⟩ rfl hn hL.1 hst (lv_room hro) hd hR.2) hS (fun r ah' sz' H1 locs1 hq hA1 hS1 => ?_)
  exact k r ah' sz' hq p l e s m args below meth c H1 locs1 ls X hA1 hS1 hL
theorem z_callS {M' : zM} {d' mc ms n index : Nat} {As rest : List Value} {Q : zPost} (hlk : zLS M.1 index M' n) (hc : zC G M' d' mc ms As ah sz Q) (hd : decode (zcd M) pc = .ok (.invokestatic index, 3)) (hst : st = As.reverse ++ rest) (hn : As.length = n) (hro : (rest.map fun v => v.category).sum ≤ 8) (hR : zRR R M' d' mc ms cn sn)
    (k : ∀ (r : Option Value) (ah' : zH) (sz' : Nat), Q r ah' sz' → zW G M R F (cn + mc) (sn + ms) (pc + 3) lv (r.toList ++ rest) ah' sz') : zW G M R F cn sn pc lv st ah sz := by
  intro p l e s m args below meth c H locs ls X hA hS hL
  obtain ⟨⟨h1, h2, h3⟩, h4, h5⟩ := hlk
  have ok : ∀ w ∈ lw_gd, w.before args s = true := X.2.2.2.2.2.1
  have cb := callB_of (R := R) (own := M.1) (index := index) (y := M'.2.1) (bytes := zcd M') (maxL := zml M') (ret := zrt M') (rm := zRm d' mc ms) (mc := mc) (ms := ms) n ok (zGoodC h1) rfl rfl rfl (ok _ h2) (ok _ h4) h3 hR.1
  refine z_goes (M' := M') (d' := d') (va_runS (As := As) (rest := rest) ⟨X.1, X.2.1, X.2.2.2.1, X.2.2.2.2.1, ok⟩ (hc l) ⟨cb, ok _ h5⟩ ⟨zPc_blind, fun U hU hW => ⟨rfl, by rw [hU]; exact hA, zK.call X hS hU hW⟩⟩ rfl hn hL.1 hst (lv_room hro) hd hR.2) hS (fun r ah' sz' H1 locs1 hq hA1 hS1 => ?_)
  exact k r ah' sz' hq p l e s m args below meth c H1 locs1 ls X hA1 hS1 hL
theorem z_callI {M' : zM} {d' mc ms n index b : Nat} {As rest : List Value} {Q : zPost} (hlk : zLI M.1 index M' n) (hc : zC G M' d' mc ms (.ref b :: As) ah sz Q) (hd : decode (zcd M) pc = .ok (.invokespecial index, 3)) (hst : st = As.reverse ++ .ref b :: rest) (hn : As.length = n) (hro : (rest.map fun v => v.category).sum ≤ 8) (hR : zRR R M' d' mc ms cn sn)
    (k : ∀ (r : Option Value) (ah' : zH) (sz' : Nat), Q r ah' sz' → zW G M R F (cn + mc) (sn + ms) (pc + 3) lv (r.toList ++ rest) ah' sz') : zW G M R F cn sn pc lv st ah sz := by
  intro p l e s m args below meth c H locs ls X hA hS hL
  obtain ⟨⟨h1, h2, h3⟩, h4, h5, h6, h7⟩ := hlk
  have ok : ∀ w ∈ lw_gd, w.before args s = true := X.2.2.2.2.2.1
  have hc' := hc l
  rw [h7] at hc' h1
  have hG : GoodIn lw_gd (Cond.code M'.2.1 (zcd M') (zml M') none :: lw_gd) := fun w hw => by
    rcases List.mem_cons.mp hw with rfl | hw
    · exact lw_good _ h1
    · exact lw_good _ hw
  rcases h4 with h4 | ⟨host, h4⟩
  · have cb := callB_of (R := R) (own := M.1) (index := index) (y := M'.2.1) (bytes := zcd M') (maxL := zml M') (ret := none) (rm := zRm d' mc ms) (mc := mc) (ms := ms) n ok hG rfl rfl rfl (ok _ h2) (ok _ h4) h3 hR.1
    refine z_goes (M' := M') (d' := d') (va_runI (As := As) (rest := rest) ⟨X.1, X.2.1, X.2.2.2.1, X.2.2.2.2.1, ok⟩ hc' ⟨cb, h6, ok _ h5⟩ ⟨zPc_blind, fun U hU hW => ⟨rfl, by rw [hU]; exact hA, zK.call X hS hU hW⟩⟩ rfl hn hL.1 hst (lv_room hro) hd hR.2) hS (fun r ah' sz' H1 locs1 hq hA1 hS1 => ?_)
    exact k r ah' sz' hq p l e s m args below meth c H1 locs1 ls X hA1 hS1 hL
  · have cb := va_cnB (R := R) (own := M.1) (host := host) (index := index) (y := M'.2.1) (bytes := zcd M') (maxL := zml M') (ret := none) (rm := zRm d' mc ms) (mc := mc) (ms := ms) n ok hG rfl rfl rfl (zXn X h4 rfl) (ok _ h2) h3 hR.1
    refine z_goes (M' := M') (d' := d') (va_runIN (As := As) (rest := rest) ⟨X.1, X.2.1, X.2.2.2.1, X.2.2.2.2.1, ok⟩ hc' ⟨cb, h6, ok _ h5⟩ ⟨zPc_blind, fun U hU hW => ⟨rfl, by rw [hU]; exact hA, zK.call X hS hU hW⟩⟩ rfl hn hL.1 hst (lv_room hro) hd hR.2) hS (fun r ah' sz' H1 locs1 hq hA1 hS1 => ?_)
    exact k r ah' sz' hq p l e s m args below meth c H1 locs1 ls X hA1 hS1 hL
theorem z_callV1 {M' : zM} {d' n ci index b : Nat} {fs As rest : List Value} {v : Value} {ah' : zH} (hlk : zLV M.1 index M' ci n) (hc : zCe G M' d' (.ref b :: As) ah sz (some v) ah') (hb : ah b = some (.inr (ci, fs))) (hd : decode (zcd M) pc = .ok (.invokevirtual index, 3)) (hst : st = As.reverse ++ .ref b :: rest) (hn : As.length = n) (hro : (rest.map fun v => v.category).sum ≤ 8) (hR : zRR R M' d' 0 0 cn sn)
    (k : zW G M R F cn sn (pc + 3) lv (v :: rest) ah' sz) : zW G M R F cn sn pc lv st ah sz :=
  z_callV hlk hc hb hd hst hn hro hR (fun r a z q => by obtain ⟨rfl, rfl, rfl⟩ := q; exact k)
theorem z_callV0 {M' : zM} {d' n ci index b : Nat} {fs As rest : List Value} {ah' : zH} (hlk : zLV M.1 index M' ci n) (hc : zCe G M' d' (.ref b :: As) ah sz none ah') (hb : ah b = some (.inr (ci, fs))) (hd : decode (zcd M) pc = .ok (.invokevirtual index, 3)) (hst : st = As.reverse ++ .ref b :: rest) (hn : As.length = n) (hro : (rest.map fun v => v.category).sum ≤ 8) (hR : zRR R M' d' 0 0 cn sn)
    (k : zW G M R F cn sn (pc + 3) lv (rest) ah' sz) : zW G M R F cn sn pc lv st ah sz :=
  z_callV hlk hc hb hd hst hn hro hR (fun r a z q => by obtain ⟨rfl, rfl, rfl⟩ := q; exact k)
theorem z_callS1 {M' : zM} {d' n index : Nat} {As rest : List Value} {v : Value} {ah' : zH} (hlk : zLS M.1 index M' n) (hc : zCe G M' d' As ah sz (some v) ah') (hd : decode (zcd M) pc = .ok (.invokestatic index, 3)) (hst : st = As.reverse ++ rest) (hn : As.length = n) (hro : (rest.map fun v => v.category).sum ≤ 8) (hR : zRR R M' d' 0 0 cn sn)
    (k : zW G M R F cn sn (pc + 3) lv (v :: rest) ah' sz) : zW G M R F cn sn pc lv st ah sz :=
  z_callS hlk hc hd hst hn hro hR (fun r a z q => by obtain ⟨rfl, rfl, rfl⟩ := q; exact k)
theorem z_callS0 {M' : zM} {d' n index : Nat} {As rest : List Value} {ah' : zH} (hlk : zLS M.1 index M' n) (hc : zCe G M' d' As ah sz none ah') (hd : decode (zcd M) pc = .ok (.invokestatic index, 3)) (hst : st = As.reverse ++ rest) (hn : As.length = n) (hro : (rest.map fun v => v.category).sum ≤ 8) (hR : zRR R M' d' 0 0 cn sn)
    (k : zW G M R F cn sn (pc + 3) lv (rest) ah' sz) : zW G M R F cn sn pc lv st ah sz :=
  z_callS hlk hc hd hst hn hro hR (fun r a z q => by obtain ⟨rfl, rfl, rfl⟩ := q; exact k)
theorem z_callI0 {M' : zM} {d' n index b : Nat} {As rest : List Value} {ah' : zH} (hlk : zLI M.1 index M' n) (hc : zCe G M' d' (.ref b :: As) ah sz none ah') (hd : decode (zcd M) pc = .ok (.invokespecial index, 3)) (hst : st = As.reverse ++ .ref b :: rest) (hn : As.length = n) (hro : (rest.map fun v => v.category).sum ≤ 8) (hR : zRR R M' d' 0 0 cn sn)
    (k : zW G M R F cn sn (pc + 3) lv (rest) ah' sz) : zW G M R F cn sn pc lv st ah sz :=
  z_callI hlk hc hd hst hn hro hR (fun r a z q => by obtain ⟨rfl, rfl, rfl⟩ := q; exact k)
end ZR
