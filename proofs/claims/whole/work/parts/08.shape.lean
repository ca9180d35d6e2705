/-! ===== heaps of a fixed shape: what changes is a store of numbers alone ===== -/
/-- a shape: an object of class ci, its fields (none: an int; some none: a long; some (some b): the cell b); or an array: its kind, length, what cells it holds -/
abbrev zSh : Type := (Nat × List (Option (Option Nat))) ⊕ (Nat × Nat × (Nat → Option Nat))
/-- ints of objects, longs of objects, items of arrays of ints and bytes, items of arrays of longs -/
abbrev zSt : Type := (Nat → Nat → Int32) × (Nat → Nat → Int64) × (Nat → Nat → Int32) × (Nat → Nat → Int64)
abbrev zi (S : zSt) : Nat → Nat → Int32 := S.1
abbrev zl (S : zSt) : Nat → Nat → Int64 := S.2.1
abbrev za (S : zSt) : Nat → Nat → Int32 := S.2.2.1
abbrev zj (S : zSt) : Nat → Nat → Int64 := S.2.2.2
def zfv1 (S : zSt) (a k : Nat) : Option (Option Nat) → Value
  | none => .int (zi S a k)
  | some none => .long (zl S a k)
  | some (some b) => .ref b
def zfs (S : zSt) (a : Nat) : Nat → List (Option (Option Nat)) → List Value
  | _, [] => []
  | k, d :: l => zfv1 S a k d :: zfs S a (k + 1) l
def zax (S : zSt) (a : Nat) (c : Nat) (f : Nat → Option Nat) : (Nat → Int32) ⊕ (Nat → Int64) ⊕ (Nat → UInt32) ⊕ (Nat → UInt64) ⊕ (Nat → Option Nat) := match c with
  | 0 => .inl (za S a)
  | 1 => .inr (.inl (zj S a))
  | 2 => .inl (za S a)
  | _ => .inr (.inr (.inr (.inr f)))
def zcell (S : zSt) (a : Nat) : zSh → zE
  | .inl o => .inr (o.1, zfs S a 0 o.2)
  | .inr r => .inl (r.1, r.2.1, zax S a r.1 r.2.2)
def zhp (sh : Nat → Option zSh) (S : zSt) : zH := fun a => (sh a).map (zcell S a)
/-- one entry of a table of two arguments -/
def zup {α : Type} (f : Nat → Nat → α) (a k : Nat) (v : α) : Nat → Nat → α := fun b j => if b = a ∧ j = k then v else f b j
theorem zup_same {α : Type} {f : Nat → Nat → α} {a k : Nat} {v : α} : zup f a k v a k = v := if_pos ⟨rfl, rfl⟩
theorem zup_ne {α : Type} {f : Nat → Nat → α} {a k b j : Nat} {v : α} (h : ¬ (b = a ∧ j = k)) : zup f a k v b j = f b j := if_neg h
abbrev zsi (S : zSt) (a k : Nat) (v : Int32) : zSt := (zup S.1 a k v, S.2.1, S.2.2.1, S.2.2.2)
abbrev zsl (S : zSt) (a k : Nat) (v : Int64) : zSt := (S.1, zup S.2.1 a k v, S.2.2.1, S.2.2.2)
abbrev zsa (S : zSt) (a k : Nat) (v : Int32) : zSt := (S.1, S.2.1, zup S.2.2.1 a k v, S.2.2.2)
abbrev zsj (S : zSt) (a k : Nat) (v : Int64) : zSt := (S.1, S.2.1, S.2.2.1, zup S.2.2.2 a k v)
/-- a whole array -/
def zrow {α : Type} (f : Nat → Nat → α) (a : Nat) (g : Nat → α) : Nat → Nat → α := fun b j => if b = a then g j else f b j
abbrev zsA (S : zSt) (a : Nat) (g : Nat → Int32) : zSt := (S.1, S.2.1, zrow S.2.2.1 a g, S.2.2.2)
abbrev zsJ (S : zSt) (a : Nat) (g : Nat → Int64) : zSt := (S.1, S.2.1, S.2.2.1, zrow S.2.2.2 a g)
theorem zfs_get (S : zSt) (a : Nat) : ∀ (l : List (Option (Option Nat))) (k i : Nat), (zfs S a k l)[i]? = (l[i]?).map (zfv1 S a (k + i))
  | [], _, _ => by simp [zfs]
  | d :: l, k, 0 => by simp [zfs]
  | d :: l, k, i + 1 => by
    have := zfs_get S a l (k + 1) i
    simp only [zfs, List.getElem?_cons_succ]
    rw [this, show k + 1 + i = k + (i + 1) by omega]
theorem zfs_len (S : zSt) (a : Nat) : ∀ (l : List (Option (Option Nat))) (k : Nat), (zfs S a k l).length = l.length
  | [], _ => rfl
  | d :: l, k => by simp [zfs, zfs_len S a l (k + 1)]
theorem zhp_at {sh : Nat → Option zSh} {S : zSt} {a : Nat} {x : zSh} (h : sh a = some x) : zhp sh S a = some (zcell S a x) := by
  unfold zhp; rw [h]; rfl
theorem zhp_obj {sh : Nat → Option zSh} {S : zSt} {a ci : Nat} {fds : List (Option (Option Nat))} (h : sh a = some (.inl (ci, fds))) : zhp sh S a = some (.inr (ci, zfs S a 0 fds)) := zhp_at h
/-- the same but at one cell -/
theorem zhp_upd {sh : Nat → Option zSh} {S S' : zSt} {a : Nat} {x : zSh} {e : zE} (h : sh a = some x) (he : e = zcell S' a x) (hs : ∀ b, b ≠ a → S'.1 b = S.1 b ∧ S'.2.1 b = S.2.1 b ∧ S'.2.2.1 b = S.2.2.1 b ∧ S'.2.2.2 b = S.2.2.2 b) : zu (zhp sh S) a e = zhp sh S' := by
  funext b
  by_cases hb : b = a
  · subst hb
    rw [zu_same, zhp_at h, he]
  · rw [zu_ne hb]
    unfold zhp
    obtain ⟨h1, h2, h3, h4⟩ := hs b hb
    cases hsh : sh b with
    | none => rfl
    | some y =>
      show some (zcell S b y) = some (zcell S' b y)
      congr 1
      cases y with
      | inl o =>
        show Sum.inr (o.1, zfs S b 0 o.2) = Sum.inr (o.1, zfs S' b 0 o.2)
        congr 2
        apply List.ext_getElem?
        intro i
        rw [zfs_get, zfs_get]
        cases o.2[i]? with
        | none => rfl
        | some d =>
          show some (zfv1 S b (0 + i) d) = some (zfv1 S' b (0 + i) d)
          congr 1
          match d with
          | none => show Value.int (S.1 b _) = Value.int (S'.1 b _); rw [h1]
          | some none => show Value.long (S.2.1 b _) = Value.long (S'.2.1 b _); rw [h2]
          | some (some c) => rfl
      | inr r =>
        show Sum.inl (r.1, r.2.1, zax S b r.1 r.2.2) = Sum.inl (r.1, r.2.1, zax S' b r.1 r.2.2)
        unfold zax
        congr 3
        match r.1 with
        | 0 => show Sum.inl (S.2.2.1 b) = Sum.inl (S'.2.2.1 b); rw [h3]
        | 1 => show Sum.inr (Sum.inl (S.2.2.2 b)) = Sum.inr (Sum.inl (S'.2.2.2 b)); rw [h4]
        | 2 => show Sum.inl (S.2.2.1 b) = Sum.inl (S'.2.2.1 b); rw [h3]
        | n + 3 => rfl
theorem zup_off {α : Type} {f : Nat → Nat → α} {a k b : Nat} {v : α} (h : b ≠ a) : zup f a k v b = f b := by
  funext j; exact zup_ne (fun q => h q.1)
theorem zrow_off {α : Type} {f : Nat → Nat → α} {a b : Nat} {g : Nat → α} (h : b ≠ a) : zrow f a g b = f b := by
  funext j; exact if_neg h
theorem zrow_on {α : Type} {f : Nat → Nat → α} {a : Nat} {g : Nat → α} : zrow f a g a = g := by
  funext j; exact if_pos rfl
theorem zup_on {f : Nat → Nat → Int32} {a k : Nat} {v : Int32} : zup f a k v a = upd (f a) k v := by
  funext j; unfold zup upd
  by_cases h : j = k <;> simp [h]
theorem zup_onL {f : Nat → Nat → Int64} {a k : Nat} {v : Int64} : zup f a k v a = vp_updL (f a) k v := by
  funext j; unfold zup vp_updL
  by_cases h : j = k <;> simp [h]
theorem zhp_seti {sh : Nat → Option zSh} {S : zSt} {a ci k : Nat} {fds : List (Option (Option Nat))} {v : Int32} (h : sh a = some (.inl (ci, fds))) (hk : fds[k]? = some none) : zu (zhp sh S) a (.inr (ci, (zfs S a 0 fds).set k (.int v))) = zhp sh (zsi S a k v) := by
  refine zhp_upd h ?_ (fun b hb => ⟨zup_off hb, rfl, rfl, rfl⟩)
  show Sum.inr (ci, _) = Sum.inr (ci, _)
  congr 2
  apply List.ext_getElem?
  intro i
  rw [zfs_get]
  by_cases hi : k = i
  · subst hi
    rw [List.getElem?_set_self (by rw [zfs_len]; exact (List.getElem?_eq_some_iff.mp hk).1), hk]
    show _ = some (Value.int (zup S.1 a k v a (0 + k)))
    rw [Nat.zero_add, zup_same]
  · rw [List.getElem?_set_ne hi, zfs_get]
    cases fds[i]? with
    | none => rfl
    | some d =>
      show some (zfv1 S a (0 + i) d) = some (zfv1 _ a (0 + i) d)
      congr 1
      match d with
      | none => show Value.int (S.1 a _) = Value.int (zup S.1 a k v a _); rw [zup_ne (by omega)]
      | some none => rfl
      | some (some c) => rfl
theorem zhp_setl {sh : Nat → Option zSh} {S : zSt} {a ci k : Nat} {fds : List (Option (Option Nat))} {v : Int64} (h : sh a = some (.inl (ci, fds))) (hk : fds[k]? = some (some none)) : zu (zhp sh S) a (.inr (ci, (zfs S a 0 fds).set k (.long v))) = zhp sh (zsl S a k v) := by
  refine zhp_upd h ?_ (fun b hb => ⟨rfl, zup_off hb, rfl, rfl⟩)
  show Sum.inr (ci, _) = Sum.inr (ci, _)
  congr 2
  apply List.ext_getElem?
  intro i
  rw [zfs_get]
  by_cases hi : k = i
  · subst hi
    rw [List.getElem?_set_self (by rw [zfs_len]; exact (List.getElem?_eq_some_iff.mp hk).1), hk]
    show _ = some (Value.long (zup S.2.1 a k v a (0 + k)))
    rw [Nat.zero_add, zup_same]
  · rw [List.getElem?_set_ne hi, zfs_get]
    cases fds[i]? with
    | none => rfl
    | some d =>
      show some (zfv1 S a (0 + i) d) = some (zfv1 _ a (0 + i) d)
      congr 1
      match d with
      | none => rfl
      | some none => show Value.long (S.2.1 a _) = Value.long (zup S.2.1 a k v a _); rw [zup_ne (by omega)]
      | some (some c) => rfl
theorem zhp_setA {sh : Nat → Option zSh} {S : zSt} {a c n : Nat} {f : Nat → Option Nat} {g : Nat → Int32} (h : sh a = some (.inr (c, n, f))) (hc : c = 0 ∨ c = 2) : zu (zhp sh S) a (.inl (c, n, .inl g)) = zhp sh (zsA S a g) := by
  refine zhp_upd h ?_ (fun b hb => ⟨rfl, rfl, zrow_off hb, rfl⟩)
  rcases hc with rfl | rfl <;> (show Sum.inl (_, n, Sum.inl g) = Sum.inl (_, n, Sum.inl (zrow S.2.2.1 a g a)); rw [zrow_on])
theorem zhp_setJ {sh : Nat → Option zSh} {S : zSt} {a n : Nat} {f : Nat → Option Nat} {g : Nat → Int64} (h : sh a = some (.inr (1, n, f))) : zu (zhp sh S) a (.inl (1, n, .inr (.inl g))) = zhp sh (zsJ S a g) := by
  refine zhp_upd h ?_ (fun b hb => ⟨rfl, rfl, rfl, zrow_off hb⟩)
  show Sum.inl (1, n, Sum.inr (Sum.inl g)) = Sum.inl (1, n, Sum.inr (Sum.inl (zrow S.2.2.2 a g a)))
  rw [zrow_on]
theorem zhp_seta {sh : Nat → Option zSh} {S : zSt} {a c n k : Nat} {f : Nat → Option Nat} {v : Int32} (h : sh a = some (.inr (c, n, f))) (hc : c = 0 ∨ c = 2) : zu (zhp sh S) a (.inl (c, n, .inl (upd (za S a) k v))) = zhp sh (zsa S a k v) := by
  refine zhp_upd h ?_ (fun b hb => ⟨rfl, rfl, zup_off hb, rfl⟩)
  rcases hc with rfl | rfl <;> (show Sum.inl (_, n, Sum.inl _) = Sum.inl (_, n, Sum.inl (zup S.2.2.1 a k v a)); rw [zup_on])
theorem zhp_setj {sh : Nat → Option zSh} {S : zSt} {a n k : Nat} {f : Nat → Option Nat} {v : Int64} (h : sh a = some (.inr (1, n, f))) : zu (zhp sh S) a (.inl (1, n, .inr (.inl (vp_updL (zj S a) k v)))) = zhp sh (zsj S a k v) := by
  refine zhp_upd h ?_ (fun b hb => ⟨rfl, rfl, rfl, zup_off hb⟩)
  show Sum.inl (1, n, Sum.inr (Sum.inl _)) = Sum.inl (1, n, Sum.inr (Sum.inl (zup S.2.2.2 a k v a)))
  rw [zup_onL]
section ZS
variable {G : zG} {M : zM} {R : Room} {F : zFin} {cn sn pc : Nat} {lv lv' : List (Option Value)} {st : List Value} {sz : Nat} {sh : Nat → Option zSh} {S : zSt}
theorem s_geti {ci k index a : Nat} {t : FieldType} {fin : Bool} {fds : List (Option (Option Nat))} (hf : zFl M.1 index ci k t fin) (hd : decode (zcd M) pc = .ok (.getfield index, 3)) (he : sh a = some (.inl (ci, fds))) (hk : fds[k]? = some none) (kk : zW G M R F cn sn (pc + 3) lv (.int (zi S a k) :: st) (zhp sh S) sz) : zW G M R F cn sn pc lv (.ref a :: st) (zhp sh S) sz :=
  z_getf hf hd (zhp_obj he) (by rw [zfs_get, hk, Nat.zero_add]; rfl) kk
theorem s_getl {ci k index a : Nat} {t : FieldType} {fin : Bool} {fds : List (Option (Option Nat))} (hf : zFl M.1 index ci k t fin) (hd : decode (zcd M) pc = .ok (.getfield index, 3)) (he : sh a = some (.inl (ci, fds))) (hk : fds[k]? = some (some none)) (kk : zW G M R F cn sn (pc + 3) lv (.long (zl S a k) :: st) (zhp sh S) sz) : zW G M R F cn sn pc lv (.ref a :: st) (zhp sh S) sz :=
  z_getf hf hd (zhp_obj he) (by rw [zfs_get, hk, Nat.zero_add]; rfl) kk
theorem s_getr {ci k index a b : Nat} {t : FieldType} {fin : Bool} {fds : List (Option (Option Nat))} (hf : zFl M.1 index ci k t fin) (hd : decode (zcd M) pc = .ok (.getfield index, 3)) (he : sh a = some (.inl (ci, fds))) (hk : fds[k]? = some (some (some b))) (kk : zW G M R F cn sn (pc + 3) lv (.ref b :: st) (zhp sh S) sz) : zW G M R F cn sn pc lv (.ref a :: st) (zhp sh S) sz :=
  z_getf hf hd (zhp_obj he) (by rw [zfs_get, hk, Nat.zero_add]; rfl) kk
theorem s_puti {ci k index a : Nat} {t : FieldType} {fds : List (Option (Option Nat))} {v : Int32} (hf : zFl M.1 index ci k t false) (hd : decode (zcd M) pc = .ok (.putfield index, 3)) (he : sh a = some (.inl (ci, fds))) (hk : fds[k]? = some none) (hn : narrow t (.int v) = .int v ∧ fits t (.int v) = true) (kk : zW G M R F cn sn (pc + 3) lv st (zhp sh (zsi S a k v)) sz) : zW G M R F cn sn pc lv (.int v :: .ref a :: st) (zhp sh S) sz :=
  z_putf hf hd (zhp_obj he) (by rw [zfs_len]; exact (List.getElem?_eq_some_iff.mp hk).1) hn (z_heap (zhp_seti he hk) kk)
theorem s_putl {ci k index a : Nat} {t : FieldType} {fds : List (Option (Option Nat))} {v : Int64} (hf : zFl M.1 index ci k t false) (hd : decode (zcd M) pc = .ok (.putfield index, 3)) (he : sh a = some (.inl (ci, fds))) (hk : fds[k]? = some (some none)) (hn : narrow t (.long v) = .long v ∧ fits t (.long v) = true) (kk : zW G M R F cn sn (pc + 3) lv st (zhp sh (zsl S a k v)) sz) : zW G M R F cn sn pc lv (.long v :: .ref a :: st) (zhp sh S) sz :=
  z_putf hf hd (zhp_obj he) (by rw [zfs_len]; exact (List.getElem?_eq_some_iff.mp hk).1) hn (z_heap (zhp_setl he hk) kk)
theorem s_iald {n a : Nat} {f : Nat → Option Nat} {i : Int32} (hd : decode (zcd M) pc = .ok (.iaload, 1)) (he : sh a = some (.inr (0, n, f))) (hin : vp_in i n) (kk : zW G M R F cn sn (pc + 1) lv (.int (za S a i.toNatClampNeg) :: st) (zhp sh S) sz) : zW G M R F cn sn pc lv (.int i :: .ref a :: st) (zhp sh S) sz :=
  z_iald hd (zhp_at he) hin kk
theorem s_bald {n a : Nat} {f : Nat → Option Nat} {i : Int32} (hd : decode (zcd M) pc = .ok (.baload, 1)) (he : sh a = some (.inr (2, n, f))) (hin : vp_in i n) (kk : zW G M R F cn sn (pc + 1) lv (.int (za S a i.toNatClampNeg) :: st) (zhp sh S) sz) : zW G M R F cn sn pc lv (.int i :: .ref a :: st) (zhp sh S) sz :=
  z_bald hd (zhp_at he) hin kk
theorem s_lald {n a : Nat} {f : Nat → Option Nat} {i : Int32} (hd : decode (zcd M) pc = .ok (.laload, 1)) (he : sh a = some (.inr (1, n, f))) (hin : vp_in i n) (kk : zW G M R F cn sn (pc + 1) lv (.long (zj S a i.toNatClampNeg) :: st) (zhp sh S) sz) : zW G M R F cn sn pc lv (.int i :: .ref a :: st) (zhp sh S) sz :=
  z_lald hd (zhp_at he) hin kk
theorem s_aald {c n a b : Nat} {f : Nat → Option Nat} {i : Int32} (hc : 3 ≤ c ∧ c < 7) (hd : decode (zcd M) pc = .ok (.aaload, 1)) (he : sh a = some (.inr (c, n, f))) (hin : vp_in i n) (hf : f i.toNatClampNeg = some b) (kk : zW G M R F cn sn (pc + 1) lv (.ref b :: st) (zhp sh S) sz) : zW G M R F cn sn pc lv (.int i :: .ref a :: st) (zhp sh S) sz := by
  have hk : c < 7 ∧ (zT c).isReference = true := by
    refine ⟨hc.2, ?_⟩
    match c, hc with
    | 3, _ => rfl
    | 4, _ => rfl
    | 5, _ => rfl
    | 6, _ => rfl
  have hz : zhp sh S a = some (.inl (c, n, .inr (.inr (.inr (.inr f))))) := by
    rw [zhp_at he]
    match c, hc with
    | 3, _ => rfl
    | 4, _ => rfl
    | 5, _ => rfl
    | 6, _ => rfl
  exact z_aald hk hd hz hin hf kk
theorem s_iast {n a : Nat} {f : Nat → Option Nat} {i x : Int32} (hd : decode (zcd M) pc = .ok (.iastore, 1)) (he : sh a = some (.inr (0, n, f))) (hin : vp_in i n) (kk : zW G M R F cn sn (pc + 1) lv st (zhp sh (zsa S a i.toNatClampNeg x)) sz) : zW G M R F cn sn pc lv (.int x :: .int i :: .ref a :: st) (zhp sh S) sz :=
  z_iast hd (zhp_at he) hin (z_heap (zhp_seta he (Or.inl rfl)) kk)
theorem s_bast {n a : Nat} {f : Nat → Option Nat} {i x : Int32} (hd : decode (zcd M) pc = .ok (.bastore, 1)) (he : sh a = some (.inr (2, n, f))) (hin : vp_in i n) (kk : zW G M R F cn sn (pc + 1) lv st (zhp sh (zsa S a i.toNatClampNeg x.toInt8.toInt32)) sz) : zW G M R F cn sn pc lv (.int x :: .int i :: .ref a :: st) (zhp sh S) sz :=
  z_bast hd (zhp_at he) hin (z_heap (zhp_seta he (Or.inr rfl)) kk)
theorem s_last {n a : Nat} {f : Nat → Option Nat} {i : Int32} {x : Int64} (hd : decode (zcd M) pc = .ok (.lastore, 1)) (he : sh a = some (.inr (1, n, f))) (hin : vp_in i n) (kk : zW G M R F cn sn (pc + 1) lv st (zhp sh (zsj S a i.toNatClampNeg x)) sz) : zW G M R F cn sn pc lv (.long x :: .int i :: .ref a :: st) (zhp sh S) sz :=
  z_last hd (zhp_at he) hin (z_heap (zhp_setj he) kk)
theorem s_alen {n a c : Nat} {f : Nat → Option Nat} (v : Int32) (hd : decode (zcd M) pc = .ok (.arraylength, 1)) (hc : c < 7) (he : sh a = some (.inr (c, n, f))) (hv : Int32.ofNat n = v) (kk : zW G M R F cn sn (pc + 1) lv (.int v :: st) (zhp sh S) sz) : zW G M R F cn sn pc lv (.ref a :: st) (zhp sh S) sz :=
  z_alen v hd hc (zhp_at he) hv kk
/-- a contract over a shape: answer and store outright -/
abbrev zD (G : zG) (M : zM) (d : Nat) (sh : Nat → Option zSh) (av : List Value) (S : zSt) (r : Option Value) (S' : zSt) : Prop := ∀ sz : Nat, zCe G M d av (zhp sh S) sz r (zhp sh S')
/-- and by a relation -/
abbrev zP (sh : Nat → Option zSh) (sz : Nat) (Q : Option Value → zSt → Prop) : zPost := fun r ah' sz' => sz' = sz ∧ ∃ S' : zSt, ah' = zhp sh S' ∧ Q r S'
abbrev zR (G : zG) (M : zM) (d : Nat) (sh : Nat → Option zSh) (av : List Value) (S : zSt) (Q : Option Value → zSt → Prop) : Prop := ∀ sz : Nat, zC G M d 0 0 av (zhp sh S) sz (zP sh sz Q)
theorem s_meth {d : Nat} {av : List Value} {Q : Option Value → zSt → Prop} (k : Nat) {lv : List (Option Value)} (hy : plainName M.2.1.cls = true ∧ M.1 = M.2.1.cls ∧ (lg_sl av).length ≤ zml M) (hlv : zent av ++ List.replicate k none = lv)
    (kk : ∀ sz : Nat, zW G M (zRm d 0 0) (zFm G (zP sh sz Q) 0 0) 0 0 0 lv [] (zhp sh S) sz) : zR G M d sh av S Q := fun sz => z_meth k hy hlv (kk sz)
theorem s_methD {d : Nat} {av : List Value} {r : Option Value} {S' : zSt} (k : Nat) {lv : List (Option Value)} (hy : plainName M.2.1.cls = true ∧ M.1 = M.2.1.cls ∧ (lg_sl av).length ≤ zml M) (hlv : zent av ++ List.replicate k none = lv)
    (kk : ∀ sz : Nat, zW G M (zRm d 0 0) (zFm G (zQe r (zhp sh S') sz) 0 0) 0 0 0 lv [] (zhp sh S) sz) : zD G M d sh av S r S' := fun sz => z_meth k hy hlv (kk sz)
theorem s_callV1 {M' : zM} {d' n ci index b : Nat} {fds : List (Option (Option Nat))} {As rest : List Value} {v : Value} {S' : zSt} (hlk : zLV M.1 index M' ci n) (hc : zD G M' d' sh (.ref b :: As) S (some v) S') (hb : sh b = some (.inl (ci, fds))) (hd : decode (zcd M) pc = .ok (.invokevirtual index, 3)) (hst : st = As.reverse ++ .ref b :: rest) (hn : As.length = n) (hro : (rest.map fun v => v.category).sum ≤ 8) (hR : zRR R M' d' 0 0 cn sn)
    (k : zW G M R F cn sn (pc + 3) lv (v :: rest) (zhp sh S') sz) : zW G M R F cn sn pc lv st (zhp sh S) sz :=
  z_callV1 hlk (hc sz) (zhp_obj hb) hd hst hn hro hR k
theorem s_callV0 {M' : zM} {d' n ci index b : Nat} {fds : List (Option (Option Nat))} {As rest : List Value} {S' : zSt} (hlk : zLV M.1 index M' ci n) (hc : zD G M' d' sh (.ref b :: As) S none S') (hb : sh b = some (.inl (ci, fds))) (hd : decode (zcd M) pc = .ok (.invokevirtual index, 3)) (hst : st = As.reverse ++ .ref b :: rest) (hn : As.length = n) (hro : (rest.map fun v => v.category).sum ≤ 8) (hR : zRR R M' d' 0 0 cn sn)
    (k : zW G M R F cn sn (pc + 3) lv (rest) (zhp sh S') sz) : zW G M R F cn sn pc lv st (zhp sh S) sz :=
  z_callV0 hlk (hc sz) (zhp_obj hb) hd hst hn hro hR k
theorem s_callV {M' : zM} {d' n ci index b : Nat} {fds : List (Option (Option Nat))} {As rest : List Value} {Q : Option Value → zSt → Prop} (hlk : zLV M.1 index M' ci n) (hc : zR G M' d' sh (.ref b :: As) S Q) (hb : sh b = some (.inl (ci, fds))) (hd : decode (zcd M) pc = .ok (.invokevirtual index, 3)) (hst : st = As.reverse ++ .ref b :: rest) (hn : As.length = n) (hro : (rest.map fun v => v.category).sum ≤ 8) (hR : zRR R M' d' 0 0 cn sn)
    (k : ∀ (r : Option Value) (S' : zSt), Q r S' → zW G M R F cn sn (pc + 3) lv (r.toList ++ rest) (zhp sh S') sz) : zW G M R F cn sn pc lv st (zhp sh S) sz :=
  z_callV hlk (hc sz) (zhp_obj hb) hd hst hn hro hR (fun r a z q => by obtain ⟨rfl, S', rfl, hq⟩ := q; exact k r S' hq)
theorem s_callS1 {M' : zM} {d' n index : Nat} {As rest : List Value} {v : Value} {S' : zSt} (hlk : zLS M.1 index M' n) (hc : zD G M' d' sh As S (some v) S') (hd : decode (zcd M) pc = .ok (.invokestatic index, 3)) (hst : st = As.reverse ++ rest) (hn : As.length = n) (hro : (rest.map fun v => v.category).sum ≤ 8) (hR : zRR R M' d' 0 0 cn sn)
    (k : zW G M R F cn sn (pc + 3) lv (v :: rest) (zhp sh S') sz) : zW G M R F cn sn pc lv st (zhp sh S) sz :=
  z_callS1 hlk (hc sz) hd hst hn hro hR k
theorem s_callS0 {M' : zM} {d' n index : Nat} {As rest : List Value} {S' : zSt} (hlk : zLS M.1 index M' n) (hc : zD G M' d' sh As S none S') (hd : decode (zcd M) pc = .ok (.invokestatic index, 3)) (hst : st = As.reverse ++ rest) (hn : As.length = n) (hro : (rest.map fun v => v.category).sum ≤ 8) (hR : zRR R M' d' 0 0 cn sn)
    (k : zW G M R F cn sn (pc + 3) lv (rest) (zhp sh S') sz) : zW G M R F cn sn pc lv st (zhp sh S) sz :=
  z_callS0 hlk (hc sz) hd hst hn hro hR k
theorem s_callS {M' : zM} {d' n index : Nat} {As rest : List Value} {Q : Option Value → zSt → Prop} (hlk : zLS M.1 index M' n) (hc : zR G M' d' sh As S Q) (hd : decode (zcd M) pc = .ok (.invokestatic index, 3)) (hst : st = As.reverse ++ rest) (hn : As.length = n) (hro : (rest.map fun v => v.category).sum ≤ 8) (hR : zRR R M' d' 0 0 cn sn)
    (k : ∀ (r : Option Value) (S' : zSt), Q r S' → zW G M R F cn sn (pc + 3) lv (r.toList ++ rest) (zhp sh S') sz) : zW G M R F cn sn pc lv st (zhp sh S) sz :=
  z_callS hlk (hc sz) hd hst hn hro hR (fun r a z q => by obtain ⟨rfl, S', rfl, hq⟩ := q; exact k r S' hq)
theorem s_callI0 {M' : zM} {d' n index b : Nat} {As rest : List Value} {S' : zSt} (hlk : zLI M.1 index M' n) (hc : zD G M' d' sh (.ref b :: As) S none S') (hd : decode (zcd M) pc = .ok (.invokespecial index, 3)) (hst : st = As.reverse ++ .ref b :: rest) (hn : As.length = n) (hro : (rest.map fun v => v.category).sum ≤ 8) (hR : zRR R M' d' 0 0 cn sn)
    (k : zW G M R F cn sn (pc + 3) lv (rest) (zhp sh S') sz) : zW G M R F cn sn pc lv st (zhp sh S) sz :=
  z_callI0 hlk (hc sz) hd hst hn hro hR k
theorem s_callI {M' : zM} {d' n index b : Nat} {As rest : List Value} {Q : Option Value → zSt → Prop} (hlk : zLI M.1 index M' n) (hc : zR G M' d' sh (.ref b :: As) S Q) (hd : decode (zcd M) pc = .ok (.invokespecial index, 3)) (hst : st = As.reverse ++ .ref b :: rest) (hn : As.length = n) (hro : (rest.map fun v => v.category).sum ≤ 8) (hR : zRR R M' d' 0 0 cn sn)
    (k : ∀ (r : Option Value) (S' : zSt), Q r S' → zW G M R F cn sn (pc + 3) lv (r.toList ++ rest) (zhp sh S') sz) : zW G M R F cn sn pc lv st (zhp sh S) sz :=
  z_callI hlk (hc sz) hd hst hn hro hR (fun r a z q => by obtain ⟨rfl, S', rfl, hq⟩ := q; exact k r S' hq)
/-- a contract: the answer outright, the store by a relation -/
abbrev zN (G : zG) (M : zM) (d : Nat) (sh : Nat → Option zSh) (av : List Value) (S : zSt) (r : Option Value) (Q : zSt → Prop) : Prop := zR G M d sh av S (fun r' S' => r' = r ∧ Q S')
theorem n_callV1 {M' : zM} {d' n ci index b : Nat} {fds : List (Option (Option Nat))} {As rest : List Value} {v : Value} {Q : zSt → Prop} (hlk : zLV M.1 index M' ci n) (hc : zN G M' d' sh (.ref b :: As) S (some v) Q) (hb : sh b = some (.inl (ci, fds))) (hd : decode (zcd M) pc = .ok (.invokevirtual index, 3)) (hst : st = As.reverse ++ .ref b :: rest) (hn : As.length = n) (hro : (rest.map fun v => v.category).sum ≤ 8) (hR : zRR R M' d' 0 0 cn sn)
    (k : ∀ S' : zSt, Q S' → zW G M R F cn sn (pc + 3) lv (v :: rest) (zhp sh S') sz) : zW G M R F cn sn pc lv st (zhp sh S) sz :=
  s_callV hlk hc hb hd hst hn hro hR (fun r S' q => by obtain ⟨rfl, hq⟩ := q; exact k S' hq)
theorem n_callV0 {M' : zM} {d' n ci index b : Nat} {fds : List (Option (Option Nat))} {As rest : List Value} {Q : zSt → Prop} (hlk : zLV M.1 index M' ci n) (hc : zN G M' d' sh (.ref b :: As) S none Q) (hb : sh b = some (.inl (ci, fds))) (hd : decode (zcd M) pc = .ok (.invokevirtual index, 3)) (hst : st = As.reverse ++ .ref b :: rest) (hn : As.length = n) (hro : (rest.map fun v => v.category).sum ≤ 8) (hR : zRR R M' d' 0 0 cn sn)
    (k : ∀ S' : zSt, Q S' → zW G M R F cn sn (pc + 3) lv (rest) (zhp sh S') sz) : zW G M R F cn sn pc lv st (zhp sh S) sz :=
  s_callV hlk hc hb hd hst hn hro hR (fun r S' q => by obtain ⟨rfl, hq⟩ := q; exact k S' hq)
theorem n_callS1 {M' : zM} {d' n index : Nat} {As rest : List Value} {v : Value} {Q : zSt → Prop} (hlk : zLS M.1 index M' n) (hc : zN G M' d' sh As S (some v) Q) (hd : decode (zcd M) pc = .ok (.invokestatic index, 3)) (hst : st = As.reverse ++ rest) (hn : As.length = n) (hro : (rest.map fun v => v.category).sum ≤ 8) (hR : zRR R M' d' 0 0 cn sn)
    (k : ∀ S' : zSt, Q S' → zW G M R F cn sn (pc + 3) lv (v :: rest) (zhp sh S') sz) : zW G M R F cn sn pc lv st (zhp sh S) sz :=
  s_callS hlk hc hd hst hn hro hR (fun r S' q => by obtain ⟨rfl, hq⟩ := q; exact k S' hq)
theorem n_callS0 {M' : zM} {d' n index : Nat} {As rest : List Value} {Q : zSt → Prop} (hlk : zLS M.1 index M' n) (hc : zN G M' d' sh As S none Q) (hd : decode (zcd M) pc = .ok (.invokestatic index, 3)) (hst : st = As.reverse ++ rest) (hn : As.length = n) (hro : (rest.map fun v => v.category).sum ≤ 8) (hR : zRR R M' d' 0 0 cn sn)
    (k : ∀ S' : zSt, Q S' → zW G M R F cn sn (pc + 3) lv (rest) (zhp sh S') sz) : zW G M R F cn sn pc lv st (zhp sh S) sz :=
  s_callS hlk hc hd hst hn hro hR (fun r S' q => by obtain ⟨rfl, hq⟩ := q; exact k S' hq)
theorem n_callI0 {M' : zM} {d' n index b : Nat} {As rest : List Value} {Q : zSt → Prop} (hlk : zLI M.1 index M' n) (hc : zN G M' d' sh (.ref b :: As) S none Q) (hd : decode (zcd M) pc = .ok (.invokespecial index, 3)) (hst : st = As.reverse ++ .ref b :: rest) (hn : As.length = n) (hro : (rest.map fun v => v.category).sum ≤ 8) (hR : zRR R M' d' 0 0 cn sn)
    (k : ∀ S' : zSt, Q S' → zW G M R F cn sn (pc + 3) lv (rest) (zhp sh S') sz) : zW G M R F cn sn pc lv st (zhp sh S) sz :=
  s_callI hlk hc hd hst hn hro hR (fun r S' q => by obtain ⟨rfl, hq⟩ := q; exact k S' hq)
end ZS
