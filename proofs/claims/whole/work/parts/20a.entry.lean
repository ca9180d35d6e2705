/-! ===== the law's entry: what the Statement gives ===== -/
theorem arr_of {U : State} {cA comp : ClassId} {kA : Class} {ty : FieldType} (h1 : U.vm.classes[cA]? = some kA) (h2 : kA.kind = .array comp ty) : ArrOfT U cA ty := fun n z => ⟨fun q h => (by cases h), kA, h1, comp, h2⟩
section EN
variable {s : State} {args : Array Value}
theorem e_word (hts : ∀ w ∈ lw_tbl, w.before args s = true) {w : Cond} (i : Nat) (h : lw_tbl[i]? = some w) : w.before args s = true := hts w (List.mem_of_getElem? h)
theorem e_gd (hts : ∀ w ∈ lw_tbl, w.before args s = true) : ∀ w ∈ lw_gd, w.before args s = true := fun w h => hts w (List.mem_filter.mp h).1
theorem e_arr (hts : ∀ w ∈ lw_tbl, w.before args s = true) : ∀ k, k < 7 → ∃ cA : ClassId, ArrOfT s cA (zT k) ∧ va_RA s cA (zT k) := by
  intro k hk
  match k, hk with
  | 0, _ =>
    obtain ⟨cA, kA, cc, h1, h2, h3⟩ := Cond.arrayClass_spec (e_gd hts _ a_int)
    exact ⟨cA, arr_of h2 h3, h1⟩
  | 1, _ =>
    obtain ⟨cA, kA, cc, h1, h2, h3⟩ := Cond.arrayClass_spec (e_gd hts _ a_long)
    exact ⟨cA, arr_of h2 h3, h1⟩
  | 2, _ =>
    obtain ⟨cA, kA, cc, h1, h2, h3⟩ := Cond.arrayClass_spec (e_gd hts _ a_byte)
    exact ⟨cA, arr_of h2 h3, h1⟩
  | 3, _ =>
    obtain ⟨comp, cA, kA, h1, h2, h3, h4, h5⟩ := Cond.arrayOver_spec (e_word hts (w := .arrayOver (.object "RunColumns$Bits")) 91 (by decide +kernel))
    exact ⟨cA, arr_of h3 h4, kA, comp, h3, h4, h1, h5⟩
  | 4, _ =>
    obtain ⟨comp, cA, kA, h1, h2, h3, h4, h5⟩ := Cond.arrayOver_spec (e_word hts (w := .arrayOver (.object "RunColumns$Query")) 187 (by decide +kernel))
    exact ⟨cA, arr_of h3 h4, kA, comp, h3, h4, h1, h5⟩
  | 5, _ =>
    obtain ⟨comp, cA, kA, h1, h2, h3, h4, h5⟩ := Cond.arrayOver_spec (e_word hts (w := .arrayOver (.object "RunColumns$Tape")) 189 (by decide +kernel))
    exact ⟨cA, arr_of h3 h4, kA, comp, h3, h4, h1, h5⟩
  | 6, _ =>
    have h0 : zAO (.array .long) s := hts _ w_aoJ
    obtain ⟨comp, cA, kA, h1, h2, h3, h4, h5⟩ := h0.spec
    exact ⟨cA, arr_of h3 h4, h5⟩
  | j + 7, h => exact absurd h (by omega)
theorem e_cls (hts : ∀ w ∈ lw_tbl, w.before args s = true) : ∀ c : Nat, ∃ q : ClassId × (Nat → Nat), ∀ r : vw_C, vwCl[c]? = some r → u_Kn s r.1 r.2.1 r.2.2 q.1 q.2 := by
  intro c
  match c with
  | 0 =>
    obtain ⟨cC, iS, h⟩ := u_known (e_gd hts) k_Bits.2.1 (e_word hts (w := .instantiable RX0 2) 92 (by decide +kernel))
    exact ⟨(cC, iS), fun r hr => by cases hr; exact h⟩
  | 1 =>
    obtain ⟨cC, iS, h⟩ := u_known (e_gd hts) k_Groups.2.1 (e_word hts (w := .instantiable RX1 3) 214 (by decide +kernel))
    exact ⟨(cC, iS), fun r hr => by cases hr; exact h⟩
  | 2 =>
    obtain ⟨cC, iS, h⟩ := u_known (e_gd hts) k_Pairs.2.1 (e_word hts (w := .instantiable RX2 4) 115 (by decide +kernel))
    exact ⟨(cC, iS), fun r hr => by cases hr; exact h⟩
  | 3 =>
    obtain ⟨cC, iS, h⟩ := u_known (e_gd hts) k_Query.2.1 (e_word hts (w := .instantiable RX3 5) 235 (by decide +kernel))
    exact ⟨(cC, iS), fun r hr => by cases hr; exact h⟩
  | 4 =>
    obtain ⟨cC, iS, h⟩ := u_known (e_gd hts) k_Reader.2.1 (e_word hts (w := .instantiable RX4 4) 166 (by decide +kernel))
    exact ⟨(cC, iS), fun r hr => by cases hr; exact h⟩
  | 5 =>
    obtain ⟨cC, iS, h⟩ := u_known (e_gd hts) k_Rows.2.1 (e_word hts (w := .instantiable RX5 2) 85 (by decide +kernel))
    exact ⟨(cC, iS), fun r hr => by cases hr; exact h⟩
  | 6 =>
    obtain ⟨cC, iS, h⟩ := u_known (e_gd hts) k_State.2.1 (e_word hts (w := .instantiable RX6 6) 79 (by decide +kernel))
    exact ⟨(cC, iS), fun r hr => by cases hr; exact h⟩
  | 7 =>
    obtain ⟨cC, iS, h⟩ := u_known (e_gd hts) k_Tape.2.1 (e_word hts (w := .instantiable RX7 3) 262 (by decide +kernel))
    exact ⟨(cC, iS), fun r hr => by cases hr; exact h⟩
  | 8 =>
    obtain ⟨cC, iS, h⟩ := u_known (e_gd hts) k_Work.2.1 (e_word hts (w := .instantiable RX8 4) 191 (by decide +kernel))
    exact ⟨(cC, iS), fun r hr => by cases hr; exact h⟩
  | 9 =>
    obtain ⟨cC, iS, h⟩ := u_known (e_gd hts) k_RC.2.1 (e_word hts (w := .instantiable RX9 12) 71 (by decide +kernel))
    exact ⟨(cC, iS), fun r hr => by cases hr; exact h⟩
  | 10 =>
    obtain ⟨cC, iS, h⟩ := u_known (e_gd hts) k_Mo.2.1 (e_word hts (w := .instantiable RX10 23) 859 (by decide +kernel))
    exact ⟨(cC, iS), fun r hr => by cases hr; exact h⟩
  | j + 11 => exact ⟨(0, fun _ => 0), fun r hr => by cases hr⟩
end EN
theorem e_zK {p : Program} {s : State} {m : MethodId} {meth : Method} {c : Code} {b L : Nat} {xs : Nat → Int32} (C0 : lw_At p s m meth c b L xs) : ∃ G : zG, zz G = s.heap.size ∧ zb G = b ∧ zbL G = L ∧ zbx G = xs ∧ zK G s s.heap := by
  obtain ⟨-, -, -, -, -, hts, hX, hbl, -, hgv⟩ := C0
  have hs := flat_of_before _ hgv
  have hA : ∀ a : Nat, a < s.heap.size → ¬ (fun q : Nat => s.heap.size ≤ q) a := fun a h => Nat.not_le.mpr h
  obtain ⟨adK, adV, hS, hE⟩ := vk_Sof (args := #[Value.ref b]) (s := s) (N := 7) (tm := fun i => Term.string "RunColumns$Reader" (zlit.getD i (0, "")).1) (len := zlen) (byt := zbyt) (A := fun q : Nat => s.heap.size ≤ q) (by decide)
    (fun i hi => by
    match i, hi with
    | 0, _ => exact hs _ (by decide +kernel)
    | 1, _ => exact hs _ (by decide +kernel)
    | 2, _ => exact hs _ (by decide +kernel)
    | 3, _ => exact hs _ (by decide +kernel)
    | 4, _ => exact hs _ (by decide +kernel)
    | 5, _ => exact hs _ (by decide +kernel)
    | 6, _ => exact hs _ (by decide +kernel)
    | j + 7, h => exact absurd h (by omega))
    (fun i hi => by
    match i, hi with
    | 0, _ => exact hs _ (by decide +kernel)
    | 1, _ => exact hs _ (by decide +kernel)
    | 2, _ => exact hs _ (by decide +kernel)
    | 3, _ => exact hs _ (by decide +kernel)
    | 4, _ => exact hs _ (by decide +kernel)
    | 5, _ => exact hs _ (by decide +kernel)
    | 6, _ => exact hs _ (by decide +kernel)
    | j + 7, h => exact absurd h (by omega))
    (fun i hi => by
    match i, hi with
    | 0, _ => exact hs _ (by decide +kernel)
    | 1, _ => exact hs _ (by decide +kernel)
    | 2, _ => exact hs _ (by decide +kernel)
    | 3, _ => exact hs _ (by decide +kernel)
    | 4, _ => exact hs _ (by decide +kernel)
    | 5, _ => exact hs _ (by decide +kernel)
    | 6, _ => exact hs _ (by decide +kernel)
    | j + 7, h => exact absurd h (by omega))
    (fun i hi => by
    match i, hi with
    | 0, _ => exact hs _ (by decide +kernel)
    | 1, _ => exact hs _ (by decide +kernel)
    | 2, _ => exact hs _ (by decide +kernel)
    | 3, _ => exact hs _ (by decide +kernel)
    | 4, _ => exact hs _ (by decide +kernel)
    | 5, _ => exact hs _ (by decide +kernel)
    | 6, _ => exact hs _ (by decide +kernel)
    | j + 7, h => exact absurd h (by omega))
    (fun i hi j hj => by
    match i, hi with
    | 0, _ =>
      have hj : j < 2 := hj
      match j, hj with
      | 0, _ => exact hs _ (by decide +kernel)
      | 1, _ => exact hs _ (by decide +kernel)
      | q + 2, h => exact absurd h (by omega)
    | 1, _ =>
      have hj : j < 3 := hj
      match j, hj with
      | 0, _ => exact hs _ (by decide +kernel)
      | 1, _ => exact hs _ (by decide +kernel)
      | 2, _ => exact hs _ (by decide +kernel)
      | q + 3, h => exact absurd h (by omega)
    | 2, _ =>
      have hj : j < 3 := hj
      match j, hj with
      | 0, _ => exact hs _ (by decide +kernel)
      | 1, _ => exact hs _ (by decide +kernel)
      | 2, _ => exact hs _ (by decide +kernel)
      | q + 3, h => exact absurd h (by omega)
    | 3, _ =>
      have hj : j < 3 := hj
      match j, hj with
      | 0, _ => exact hs _ (by decide +kernel)
      | 1, _ => exact hs _ (by decide +kernel)
      | 2, _ => exact hs _ (by decide +kernel)
      | q + 3, h => exact absurd h (by omega)
    | 4, _ =>
      have hj : j < 2 := hj
      match j, hj with
      | 0, _ => exact hs _ (by decide +kernel)
      | 1, _ => exact hs _ (by decide +kernel)
      | q + 2, h => exact absurd h (by omega)
    | 5, _ =>
      have hj : j < 5 := hj
      match j, hj with
      | 0, _ => exact hs _ (by decide +kernel)
      | 1, _ => exact hs _ (by decide +kernel)
      | 2, _ => exact hs _ (by decide +kernel)
      | 3, _ => exact hs _ (by decide +kernel)
      | 4, _ => exact hs _ (by decide +kernel)
      | q + 5, h => exact absurd h (by omega)
    | 6, _ =>
      have hj : j < 2 := hj
      match j, hj with
      | 0, _ => exact hs _ (by decide +kernel)
      | 1, _ => exact hs _ (by decide +kernel)
      | q + 2, h => exact absurd h (by omega)
    | q + 7, h => exact absurd h (by omega))
    (fun i j hi hj hij => by
    rcases (by omega : i = 0 ∨ i = 1 ∨ i = 2 ∨ i = 3 ∨ i = 4 ∨ i = 5 ∨ i = 6) with rfl | rfl | rfl | rfl | rfl | rfl | rfl <;>
    rcases (by omega : j = 0 ∨ j = 1 ∨ j = 2 ∨ j = 3 ∨ j = 4 ∨ j = 5 ∨ j = 6) with rfl | rfl | rfl | rfl | rfl | rfl | rfl <;>
    first | exact absurd rfl hij | exact Or.inl (hs _ (by decide +kernel)) | exact Or.inr (hs _ (by decide +kernel))) hA
  obtain ⟨fv, hfv, hfc⟩ : ∃ fv : Value, (Term.static "jdk/internal/util/Preconditions" "SIOOBE_FORMATTER" "Ljava/util/function/BiFunction;").eval #[Value.ref b] s none [] s = some fv ∧ fv.category = 1 := by
    have h : (Cond.isRef (Term.static "jdk/internal/util/Preconditions" "SIOOBE_FORMATTER" "Ljava/util/function/BiFunction;")).before #[Value.ref b] s = true := hs _ (by decide +kernel)
    cases hv : (Term.static "jdk/internal/util/Preconditions" "SIOOBE_FORMATTER" "Ljava/util/function/BiFunction;").eval #[Value.ref b] s none [] s with
    | none => simp [Cond.before, Cond.holds, Cond.value, hv] at h
    | some v =>
      refine ⟨v, rfl, ?_⟩
      cases v <;> first | rfl | (simp [Cond.before, Cond.holds, Cond.value, hv] at h)
  have hcs := va_Zof (A := fun q : Nat => s.heap.size ≤ q) (e_word hts (w := .laysStatic "java/lang/String" "COMPACT_STRINGS" "Z") 464 (by decide +kernel)) (e_word hts (w := .initialized "java/lang/String") 63 (by decide +kernel)) (va_eqi (hs _ (by decide +kernel) : (Cond.eq (.static "java/lang/String" "COMPACT_STRINGS" "Z") (.int 1)).before #[Value.ref b] s = true)) hA
  have hff := va_Zof (A := fun q : Nat => s.heap.size ≤ q) (e_word hts (w := .laysStatic "jdk/internal/util/Preconditions" "SIOOBE_FORMATTER" "Ljava/util/function/BiFunction;") 484 (by decide +kernel)) (e_word hts (w := .initialized "jdk/internal/util/Preconditions") 65 (by decide +kernel)) hfv hA
  obtain ⟨cq, hcq⟩ := Classical.axiomOfChoice (e_cls hts)
  have ha0 : ∀ i : Nat, ∃ cA : ClassId, i < 7 → ArrOfT s cA (zT i) ∧ va_RA s cA (zT i) := fun i => by
    by_cases hi : i < 7
    · obtain ⟨cA, h⟩ := e_arr hts i hi
      exact ⟨cA, fun _ => h⟩
    · exact ⟨0, fun h => absurd h hi⟩
  obtain ⟨ca, hca⟩ := Classical.axiomOfChoice ha0
  refine ⟨((((fun i => (cq i).1), (fun i => (cq i).2)), ca), (s.heap.size, adK, adV), (b, L, xs), fv), rfl, rfl, rfl, rfl, ⟨fun c q hq => hcq c q hq, fun i q hq => ?_⟩, hcs, hS, fun i hi => ?_, ⟨hX, hbl⟩, Nat.le_refl _, hff, hfc, fun w hw hn => ?_, fun t ht => hts _ ht⟩
  · obtain ⟨hlt, hqe⟩ := List.getElem?_eq_some_iff.mp hq
    have hi : i < 7 := by simpa [ztys] using hlt
    have := ztys_at ((((fun i => (cq i).1), (fun i => (cq i).2)), ca), (s.heap.size, adK, adV), (b, L, xs), fv) hi
    cases hq.symm.trans this
    exact hca i hi
  · match i, hi with
    | 0, hi => exact vk_R.of (e_word hts (w := .stringRef "RunColumns$Reader" 40 "or") 567 (by decide +kernel)) (hE 0 hi)
    | 1, hi => exact vk_R.of (e_word hts (w := .stringRef "RunColumns$Reader" 57 "and") 558 (by decide +kernel)) (hE 1 hi)
    | 2, hi => exact vk_R.of (e_word hts (w := .stringRef "RunColumns$Reader" 59 "not") 450 (by decide +kernel)) (hE 2 hi)
    | 3, hi => exact vk_R.of (e_word hts (w := .stringRef "RunColumns$Reader" 82 "all") 538 (by decide +kernel)) (hE 3 hi)
    | 4, hi => exact vk_R.of (e_word hts (w := .stringRef "RunColumns$Reader" 96 "is") 548 (by decide +kernel)) (hE 4 hi)
    | 5, hi => exact vk_R.of (e_word hts (w := .stringRef "RunColumns$Reader" 98 "below") 549 (by decide +kernel)) (hE 5 hi)
    | 6, hi => exact vk_R.of (e_word hts (w := .stringRef "RunColumns$Reader" 100 "in") 550 (by decide +kernel)) (hE 6 hi)
    | j + 7, h => exact absurd h (by omega)
  · cases w <;> first | exact va_Nw.of rfl (hts _ hw) | (cases hn)

