/-! ===== how a text is read ===== -/
def sgn (tx : Nat → Int32) (L p : Nat) : Int32 := if p < L then tx p else -1
def isLet (x : Int32) : Bool := decide (97 ≤ x ∧ x ≤ 122)
def isDig (x : Int32) : Bool := decide (48 ≤ x ∧ x ≤ 57)
abbrev wln (i : Nat) : Nat := zlen.getD i 0
abbrev wby (i k : Nat) : Int32 := (zbyt.getD i []).getD k 0
def isW (tx : Nat → Int32) (L p i : Nat) : Bool := allB (fun k => sgn tx L (p + k) == wby i k) (wln i) && !isLet (sgn tx L (p + wln i))
/-- where it reads, its fault (none: -1), how many nodes, which -/
abbrev PS : Type := Nat × Int32 × Nat × Nd
abbrev PS.p (s : PS) : Nat := s.1
abbrev PS.f (s : PS) : Int32 := s.2.1
abbrev PS.n (s : PS) : Nat := s.2.2.1
abbrev PS.nd (s : PS) : Nd := s.2.2.2
abbrev PC : Type := Nat × Int32
def bl (f w : Int32) : Int32 := if f = -1 then w else f
def cPass (tx : Nat → Int32) (L : Nat) (c : Int32) (s : PC) : PC := if sgn tx L s.1 = c then (s.1 + 1, s.2) else (s.1, bl s.2 (nI s.1))
def cCol (tx : Nat → Int32) (L : Nat) (s : PC) : Int32 × PC := if (97 ≤ sgn tx L s.1 ∧ sgn tx L s.1 < 101) ∧ isLet (sgn tx L (s.1 + 1)) = false then (sgn tx L s.1 - 97, s.1 + 1, s.2) else (-1, s.1, bl s.2 (nI s.1))
def cSort (tx : Nat → Int32) (L : Nat) (s : PC) : Int32 × PC := if isW tx L s.1 4 = true then (1, s.1 + 2, s.2) else if isW tx L s.1 5 = true then (2, s.1 + 5, s.2) else if isW tx L s.1 6 = true then (3, s.1 + 2, s.2) else (-1, s.1, bl s.2 (nI s.1))
def cVal (tx : Nat → Int32) (L : Nat) (s : PC) : Int32 × PC := if isDig (sgn tx L s.1) = false then (0, s.1, bl s.2 (nI s.1)) else
  if isDig (sgn tx L (s.1 + 1)) = false then (sgn tx L s.1 - 48, s.1 + 1, s.2) else
  ((sgn tx L s.1 - 48) * 10 + sgn tx L (s.1 + 1) - 48, s.1 + 2, if (sgn tx L s.1 - 48) * 10 + sgn tx L (s.1 + 1) - 48 < 16 then s.2 else bl s.2 (nI (s.1 + 1)))
def cBlf (tx : Nat → Int32) (L : Nat) (s : PC) : PC := (s.1, bl s.2 (if sgn tx L s.1 = 32 then nI (s.1 + 1) else nI s.1))
def cClose (tx : Nat → Int32) (L : Nat) (s : PC) : PC := if sgn tx L s.1 = 41 then (s.1 + 1, s.2) else cBlf tx L s
def cPJ (tx : Nat → Int32) (L i : Nat) (s : PC) : PC := cPass tx L 32 ((cPass tx L 32 s).1 + wln i, (cPass tx L 32 s).2)
abbrev Ndx : Type := Nat × Nat × Nat × Nat × Nat × Nat
def ndPush (nd : Nd) (n : Nat) (x : Ndx) : Nd := fun i => if i = n then x else nd i
def psC (c : PC) (s : PS) : PS := (c.1, c.2, s.2.2)
def psN (x : Ndx) (s : PS) : PS := (s.1, s.2.1, s.2.2.1 + 1, ndPush s.2.2.2 s.2.2.1 x)
abbrev PS.c (s : PS) : PC := (s.1, s.2.1)
def iN (x : Int32) : Nat := x.toNatClampNeg
/-- a question: column, sort, value or values -/
def zq1 (tx : Nat → Int32) (L : Nat) (s : PC) : Int32 × PC := cCol tx L s
def zq2 (tx : Nat → Int32) (L : Nat) (s : PC) : Int32 × PC := cSort tx L (cPass tx L 32 (zq1 tx L s).2)
def zq3 (tx : Nat → Int32) (L : Nat) (s : PC) : Int32 × PC := cVal tx L (cPass tx L 32 (zq2 tx L s).2)
def zq4 (tx : Nat → Int32) (L : Nat) (s : PC) : Int32 × PC := cVal tx L (cPass tx L 46 (cPass tx L 46 (zq3 tx L s).2))
def pQ (tx : Nat → Int32) (L : Nat) (s : PS) : PS :=
  if (zq2 tx L s.c).1 = 1 then psN (1, iN (zq1 tx L s.c).1, iN (zq3 tx L s.c).1, iN (zq3 tx L s.c).1, 0, 0) (psC (zq3 tx L s.c).2 s)
  else if (zq2 tx L s.c).1 = 2 then psN (2, iN (zq1 tx L s.c).1, iN (zq3 tx L s.c).1, iN (zq3 tx L s.c).1, 0, 0) (psC (zq3 tx L s.c).2 s)
  else if (zq2 tx L s.c).1 = 3 then psN (3, iN (zq1 tx L s.c).1, iN (zq3 tx L s.c).1, iN (zq4 tx L s.c).1, 0, 0) (psC (zq4 tx L s.c).2 s)
  else psC (zq2 tx L s.c).2 s
def isJ (tx : Nat → Int32) (L i : Nat) (s : PC) : Bool := decide (s.2 = -1) && decide (sgn tx L s.1 = 32) && isW tx L (s.1 + 1) i
def pJn (tx : Nat → Int32) (L i k : Nat) (X : PS → PS) (s : PS) : PS := psN (k, 0, 0, 0, s.n - 1, (X (psC (cPJ tx L i s.c) s)).n - 1) (X (psC (cPJ tx L i s.c) s))
def pLoop (tx : Nat → Int32) (L i k : Nat) (X : PS → PS) : Nat → PS → PS
  | 0, s => s
  | d + 1, s => if isJ tx L i s.c = true then pLoop tx L i k X d (pJn tx L i k X s) else s
def pB (tx : Nat → Int32) (L : Nat) (F : PS → PS) (s : PS) : PS := pLoop tx L 1 5 F 100 (F s)
def pE (tx : Nat → Int32) (L : Nat) (F : PS → PS) (s : PS) : PS := pLoop tx L 0 6 (pB tx L F) 100 (pB tx L F s)
def pFac (tx : Nat → Int32) (L : Nat) (d : Nat) (E F : PS → PS) (s : PS) : PS :=
  if s.f = -1 then
    if (isW tx L s.p 2 = true ∨ sgn tx L s.p = 40) ∧ d = 0 then psC (s.p, bl s.f (nI s.p)) s
    else if isW tx L s.p 2 = true then psN (4, 0, 0, 0, (F (psC (cPass tx L 32 (s.p + 3, s.f)) s)).n - 1, 0) (F (psC (cPass tx L 32 (s.p + 3, s.f)) s))
    else if sgn tx L s.p = 40 then psC (cClose tx L (E (psC (cPass tx L 40 s.c) s)).c) (E (psC (cPass tx L 40 s.c) s))
    else if isW tx L s.p 3 = true then psN (0, 0, 0, 0, 0, 0) (psC (s.p + 3, s.f) s)
    else pQ tx L s
  else s
def pF (tx : Nat → Int32) (L : Nat) : Nat → PS → PS
  | 0 => pFac tx L 0 id id
  | d + 1 => pFac tx L (d + 1) (pE tx L (pF tx L d)) (pF tx L d)
/-- a whole text -/
def pAll (tx : Nat → Int32) (L : Nat) : PS :=
  let t := pE tx L (pF tx L 6) (0, -1, 0, fun _ => (0, 0, 0, 0, 0, 0))
  if t.p < L then psC (cBlf tx L t.c) t else t
theorem sgn_in {tx : Nat → Int32} {L p : Nat} (h : sgn tx L p ≠ -1) : p < L := by
  unfold sgn at h
  by_cases q : p < L
  · exact q
  · rw [if_neg q] at h; exact absurd rfl h
theorem isLet_m1 : isLet (-1) = false := by decide
theorem isDig_m1 : isDig (-1) = false := by decide
theorem isDig_in {tx : Nat → Int32} {L p : Nat} (h : isDig (sgn tx L p) = true) : p < L := sgn_in (fun q => by rw [q, isDig_m1] at h; cases h)
theorem wby_ne : ∀ i, i < 7 → ∀ k, k < wln i → wby i k ≠ -1 := by decide
theorem wln_pos : ∀ i, i < 7 → 2 ≤ wln i ∧ wln i ≤ 5 := by decide
theorem isW_sg {tx : Nat → Int32} {L p i : Nat} (h : isW tx L p i = true) {k : Nat} (hk : k < wln i) : sgn tx L (p + k) = wby i k := by
  unfold isW at h
  rw [Bool.and_eq_true] at h
  exact eq_of_beq (of_decide_eq_true h.1 k hk)
theorem isW_in {tx : Nat → Int32} {L p i : Nat} (hi : i < 7) (h : isW tx L p i = true) : p + wln i ≤ L := by
  have h1 := wln_pos i hi
  have h2 := isW_sg h (k := wln i - 1) (by omega)
  have := sgn_in (by rw [h2]; exact wby_ne i hi _ (by omega))
  omega
theorem isW_at {tx : Nat → Int32} {L p i : Nat} (h : isW tx L p i = true) : isLet (sgn tx L (p + wln i)) = false := by
  unfold isW at h
  rw [Bool.and_eq_true] at h
  have := h.2
  revert this
  cases isLet (sgn tx L (p + wln i)) <;> simp
theorem bl_f {f w : Int32} (h : f ≠ -1) : bl f w = f := if_neg h
theorem bl_m {w : Int32} : bl (-1) w = w := if_pos rfl
theorem nI_nm1 {p : Nat} (hp : p < 2 ^ 31) : nI p ≠ -1 := fun e => by
  have h0 : (0 : Int32) ≤ nI p := nI_le (a := 0) (Nat.zero_le _) hp
  rw [e] at h0
  exact absurd h0 (by decide)
theorem bl_n {f : Int32} {p : Nat} (hp : p < 2 ^ 31) : bl f (nI p) ≠ -1 := by
  unfold bl
  split
  · exact nI_nm1 hp
  · assumption
/-! the place stays within the text; a fault stays -/
abbrev keepC (L : Nat) (s t : PC) : Prop := (s.1 ≤ L → s.1 ≤ t.1 ∧ t.1 ≤ L) ∧ (s.2 ≠ -1 → t.2 = s.2)
theorem keepC.trans {L : Nat} {s t u : PC} (h : keepC L s t) (g : keepC L t u) : keepC L s u :=
  ⟨fun q => ⟨Nat.le_trans (h.1 q).1 (g.1 (h.1 q).2).1, (g.1 (h.1 q).2).2⟩, fun q => (g.2 (by rw [h.2 q]; exact q)).trans (h.2 q)⟩
section RD
variable {tx : Nat → Int32} {L : Nat}
theorem cPass_k {c : Int32} (hc : c ≠ -1) (s : PC) : keepC L s (cPass tx L c s) := by
  unfold cPass
  split
  · next h =>
    have := sgn_in (tx := tx) (L := L) (p := s.1) (by rw [h]; exact hc)
    exact ⟨fun _ => ⟨Nat.le_succ _, this⟩, fun _ => rfl⟩
  · exact ⟨fun h => ⟨Nat.le_refl _, h⟩, fun h => bl_f h⟩
theorem cPass_ok {c : Int32} {s : PC} (hs : s.1 < 2 ^ 31) (h : (cPass tx L c s).2 = -1) : sgn tx L s.1 = c ∧ cPass tx L c s = (s.1 + 1, s.2) ∧ s.2 = -1 := by
  unfold cPass at h ⊢
  split at h
  · next g => exact ⟨g, if_pos g, h⟩
  · exact absurd h (bl_n hs)
theorem cCol_k (s : PC) : keepC L s (cCol tx L s).2 := by
  unfold cCol
  split
  · next h =>
    have := sgn_in (tx := tx) (L := L) (p := s.1) (fun e => by rw [e] at h; exact absurd h.1.1 (by decide))
    exact ⟨fun _ => ⟨Nat.le_succ _, this⟩, fun _ => rfl⟩
  · exact ⟨fun h => ⟨Nat.le_refl _, h⟩, fun h => bl_f h⟩
theorem cSort_k (s : PC) : keepC L s (cSort tx L s).2 := by
  unfold cSort
  split
  · next h => have := isW_in (by decide) h; exact ⟨fun _ => ⟨Nat.le_add_right _ _, this⟩, fun _ => rfl⟩
  · split
    · next h => have := isW_in (by decide) h; exact ⟨fun _ => ⟨Nat.le_add_right _ _, this⟩, fun _ => rfl⟩
    · split
      · next h => have := isW_in (by decide) h; exact ⟨fun _ => ⟨Nat.le_add_right _ _, this⟩, fun _ => rfl⟩
      · exact ⟨fun h => ⟨Nat.le_refl _, h⟩, fun h => bl_f h⟩
theorem cVal_k (s : PC) : keepC L s (cVal tx L s).2 := by
  unfold cVal
  split
  · exact ⟨fun h => ⟨Nat.le_refl _, h⟩, fun h => bl_f h⟩
  · next h0 =>
    have h0 := isDig_in (eq_true_of_ne_false h0)
    split
    · exact ⟨fun _ => ⟨Nat.le_succ _, h0⟩, fun _ => rfl⟩
    · next h1 =>
      have h1 := isDig_in (eq_true_of_ne_false h1)
      refine ⟨fun _ => ⟨Nat.le_add_right _ _, h1⟩, fun h => ?_⟩
      show (if _ then _ else _) = _
      split
      · rfl
      · exact bl_f h
theorem cBlf_k (s : PC) : keepC L s (cBlf tx L s) := ⟨fun h => ⟨Nat.le_refl _, h⟩, fun h => bl_f h⟩
theorem cClose_k (s : PC) : keepC L s (cClose tx L s) := by
  unfold cClose
  split
  · next h =>
    have := sgn_in (tx := tx) (L := L) (p := s.1) (by rw [h]; decide)
    exact ⟨fun _ => ⟨Nat.le_succ _, this⟩, fun _ => rfl⟩
  · exact cBlf_k s
end RD

