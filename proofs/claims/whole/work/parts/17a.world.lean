/-! ===== the world; RunColumns' own methods ===== -/
/-- rows and what is told by hand, as now; whether there is an image, and it; queries; the text; tapes -/
abbrev Wd : Type := (Ab × (Nat → Int32)) × (Bool × Ab × (Nat → Int32)) × (Nat × (Nat → Nat × Nd)) × (Nat × (Nat → Int32)) × (Nat → Int32 × Nat × (Nat → Int64))
abbrev wA (w : Wd) : Ab := w.1.1
abbrev wg (w : Wd) : Nat → Int32 := w.1.2
abbrev wH (w : Wd) : Bool := w.2.1.1
abbrev wA2 (w : Wd) : Ab := w.2.1.2.1
abbrev wg2 (w : Wd) : Nat → Int32 := w.2.1.2.2
abbrev wq (w : Wd) : Nat := w.2.2.1.1
abbrev wN (w : Wd) (k : Nat) : Nat := (w.2.2.1.2 k).1
abbrev wnd (w : Wd) (k : Nat) : Nd := (w.2.2.1.2 k).2
abbrev wL (w : Wd) : Nat := w.2.2.2.1.1
abbrev wtx (w : Wd) : Nat → Int32 := w.2.2.2.1.2
abbrev wts (w : Wd) (t : Nat) : Int32 := (w.2.2.2.2 t).1
abbrev wtz (w : Wd) (t : Nat) : Nat := (w.2.2.2.2 t).2.1
abbrev wti (w : Wd) (t : Nat) : Nat → Int64 := (w.2.2.2.2 t).2.2
def tpOK (T : Int32 × Nat × (Nat → Int64)) : Prop := ((T.1 = -1 ∧ T.2.1 = 0) ∨ ∃ k, k < 5 ∧ T.1 = nI k) ∧ T.2.1 ≤ 60 ∧ (T.1 = nI 4 → ∀ i, i < 60 → T.2.2 i = 0 ∨ T.2.2 i = 1)
def wOK (w : Wd) : Prop := gaOK (wA w) (wg w) (wq w) ∧ (wH w = true → gaOK (wA2 w) (wg2 w) (wq w)) ∧ (wq w ≤ 8 ∧ ∀ k, k < wq w → wfQ (wnd w k) (wN w k) (stkF (wnd w k))) ∧ (wL w ≤ 100 ∧ ∀ i, i < wL w → ∃ c, c < 128 ∧ wtx w i = nI c) ∧ ∀ t, t < 6 → tpOK (w.2.2.2.2 t)
abbrev qI (w : Wd) (k : Nat) : It := sem (aN (wA w)) (aV (wA w)) (wnd w k) (wN w k - 1)
/-- an int that is a number below n -/
def rg (x : Int32) (n : Nat) : Bool := decide (0 ≤ x ∧ x < nI n)
theorem rg_t {x : Int32} {n : Nat} (hn : n < 2 ^ 31) (h : rg x n = true) : ∃ j, j < n ∧ x = nI j := ⟨_, clampLt hn (of_decide_eq_true h)⟩
theorem rg_n {j n : Nat} (hj : j < n) (hn : n < 2 ^ 31) : rg (nI j) n = true := decide_eq_true ⟨nI_pos' (by omega), nI_lt hj hn⟩
theorem zoT {b : Bool} (h : b = true) (e : zo b = 0) : False := by rw [h] at e; exact absurd e (by decide)
theorem zoF {b : Bool} (h : b = false) (e : ¬ zo b = 0) : False := by rw [h] at e; exact e rfl
abbrev fQr (x : Nat) : Nat → Option Nat := fun k => if k < 8 then some (x + 315 + 5 * k) else none
abbrev fTp (x : Nat) : Nat → Option Nat := fun t => if t < 6 then some (x + 355 + 2 * t) else none
def tRC (sh : Nat → Option zSh) (x : Nat) : Prop :=
  sh x = some (.inl (9, [some (some (x + 1)), some (some (x + 94)), none, some (some (x + 187)), some (some (x + 189)), none, some (some (x + 190)), some (some (x + 191)), some (some (x + 210)), some (some (x + 229)), some (some (x + 230)), some (some (x + 233))])) ∧
  tState sh (x + 1) ∧ tState sh (x + 94) ∧ tReader sh (x + 187) ∧ (sh (x + 189) = some (.inr (4, 8, fQr x)) ∧ ∀ k, k < 8 → tQuery sh (x + 315 + 5 * k)) ∧ (sh (x + 190) = some (.inr (5, 6, fTp x)) ∧ ∀ t, t < 6 → tTape sh (x + 355 + 2 * t)) ∧
  tWork sh (x + 191) ∧ tWork sh (x + 210) ∧ sh (x + 229) = some kB ∧ tGroups sh (x + 230) ∧ tRows sh (x + 233)
def rRC (S : zSt) (x : Nat) (w : Wd) : Prop :=
  rState S (x + 1) (wA w) (wg w) ∧ (zi S (x + 178) 0 = nI 6 ∧ zi S (x + 181) 0 = nI 10 ∧ zi S (x + 184) 0 = nI 8) ∧ zi S x 2 = zo (wH w) ∧ (wH w = true → rState S (x + 94) (wA2 w) (wg2 w)) ∧
  (wq w ≤ 8 ∧ zi S x 5 = nI (wq w) ∧ ∀ k, k < wq w → rQuery S (x + 315 + 5 * k) (wN w k) (wnd w k)) ∧ (zi S (x + 187) 1 = nI (wL w) ∧ ∀ i, i < wL w → za S (x + 187 + 1) i = wtx w i) ∧
  ∀ t, t < 6 → zi S (x + 355 + 2 * t) 1 = wts w t ∧ zi S (x + 355 + 2 * t) 2 = nI (wtz w t) ∧ ∀ i, i < 60 → zj S (x + 355 + 2 * t + 1) i = wti w t i
def inX (x : Nat) : Nat → Prop := fun b => x ≤ b ∧ b < x + 367
def inScr (x : Nat) : Nat → Prop := fun b => x + 191 ≤ b ∧ b < x + 315
/-- but for the rows, marks and what is told by hand -/
theorem rRC.fr0 {S S' : zSt} {x : Nat} {w : Wd} {P : Nat → Prop} (h : rRC S x w) (hf : frS S P S') (hP : ∀ b, x ≤ b → b < x + 367 → (b < x + 1 ∨ (x + 94 ≤ b ∧ b < x + 191) ∨ x + 315 ≤ b) → ¬ P b) {A : Ab} {ga : Nat → Int32} (hA : rState S' (x + 1) A ga) : rRC S' x ((A, ga), w.2) := by
  obtain ⟨r0, ⟨c1, c2, c3⟩, rh, rh2, ⟨rq8, rq0, rq⟩, ⟨rL, rtx⟩, rt⟩ := h
  have e1 : ∀ b k, x ≤ b → b < x + 367 → (b < x + 1 ∨ (x + 94 ≤ b ∧ b < x + 191) ∨ x + 315 ≤ b) → zi S' b k = zi S b k := fun b k h1 h2 h3 => congrFun (hf b (hP b h1 h2 h3)).1 k
  have e2 : ∀ b k, x ≤ b → b < x + 367 → (b < x + 1 ∨ (x + 94 ≤ b ∧ b < x + 191) ∨ x + 315 ≤ b) → za S' b k = za S b k := fun b k h1 h2 h3 => congrFun (hf b (hP b h1 h2 h3)).2.2.1 k
  have e3 : ∀ b k, x ≤ b → b < x + 367 → (b < x + 1 ∨ (x + 94 ≤ b ∧ b < x + 191) ∨ x + 315 ≤ b) → zj S' b k = zj S b k := fun b k h1 h2 h3 => congrFun (hf b (hP b h1 h2 h3)).2.2.2 k
  refine ⟨hA, ⟨?_, ?_, ?_⟩, ?_, fun q => (rh2 q).fr hf (fun b h1 h2 => hP b (by omega) (by omega) (by omega)), ⟨rq8, ?_, fun k hk => ?_⟩, ⟨?_, fun i hi => ?_⟩, fun t ht => ⟨?_, ?_, fun i hi => ?_⟩⟩
  · rw [e1 _ _ (by omega) (by omega) (by omega)]; exact c1
  · rw [e1 _ _ (by omega) (by omega) (by omega)]; exact c2
  · rw [e1 _ _ (by omega) (by omega) (by omega)]; exact c3
  · rw [e1 _ _ (by omega) (by omega) (by omega)]; exact rh
  · rw [e1 _ _ (by omega) (by omega) (by omega)]; exact rq0
  · have hk : k < wq w := hk
    exact (rq k hk).fr hf (fun b h1 h2 => hP b (by omega) (by omega) (by omega))
  · rw [e1 _ _ (by omega) (by omega) (by omega)]; exact rL
  · rw [e2 _ _ (by omega) (by omega) (by omega)]; exact rtx i hi
  · rw [e1 _ _ (by omega) (by omega) (by omega)]; exact (rt t ht).1
  · rw [e1 _ _ (by omega) (by omega) (by omega)]; exact (rt t ht).2.1
  · rw [e3 _ _ (by omega) (by omega) (by omega)]; exact (rt t ht).2.2 i hi
theorem rRC.fr {S S' : zSt} {x : Nat} {w : Wd} {P : Nat → Prop} (h : rRC S x w) (hf : frS S P S') (hP : ∀ b, x ≤ b → b < x + 367 → (b < x + 191 ∨ x + 315 ≤ b) → ¬ P b) : rRC S' x w :=
  h.fr0 hf (fun b h1 h2 h3 => hP b h1 h2 (by omega)) (h.1.fr hf (fun b h1 h2 => hP b (by omega) (by omega) (by omega)))
theorem rRC.scr {S S' : zSt} {x : Nat} {w : Wd} (h : rRC S x w) (hf : frS S (inScr x) S') : frS S (inX x) S' ∧ rRC S' x w :=
  ⟨hf.weaken (fun b hb => by unfold inScr at hb; unfold inX; omega), h.fr hf (fun b h1 h2 h3 => by unfold inScr; omega)⟩
/-! one number of a row of numbers -/
def gset (g : Nat → Int32) (i : Nat) (v : Int32) : Nat → Int32 := fun j => if j = i then v else g j
theorem gset_s {g : Nat → Int32} {i : Nat} {v : Int32} : gset g i v i = v := if_pos rfl
theorem gset_n {g : Nat → Int32} {i j : Nat} {v : Int32} (h : j ≠ i) : gset g i v j = g j := if_neg h
/-! what calls do to rows, marks, and what is told by hand -/
def y4 (a b c d : Nat) : Nat → Nat
  | 0 => a
  | 1 => b
  | 2 => c
  | _ => d
theorem y4_lt {a b c d N : Nat} (h1 : a < N) (h2 : b < N) (h3 : c < N) (h4 : d < N) : ∀ i, i < 4 → y4 a b c d i < N
  | 0, _ => h1
  | 1, _ => h2
  | 2, _ => h3
  | _ + 3, _ => h4
def aAdd (A : Ab) (y : Nat → Nat) : Ab := ((aN A + 1, aM A, aS A, aP A, aB A), vPush (aV A) (aN A) y, aT A)
def gAdd (A : Ab) (ga : Nat → Int32) (y : Nat → Nat) : Nat → Int32 := gset (gset (gset (gset (gset ga (4 * aN A) (nI (y 0))) (4 * aN A + 1) (nI (y 1))) (4 * aN A + 2) (nI (y 2))) (4 * aN A + 3) (nI (y 3))) 480 (nI (aN A + 1))
def aMark (A : Ab) : Ab := ((aN A, aM A + 1, aS A, aP A, aB A), aV A, fun i => if i = aM A then aN A else aT A i)
def gMark (A : Ab) (ga : Nat → Int32) : Nat → Int32 := gset (gset ga (482 + aM A) (nI (aN A))) 481 (nI (aM A + 1))
def aBack (A : Ab) (k : Nat) : Ab := ((aT A k, k + 1, aS A, aP A, aB A), aV A, aT A)
def gBack (A : Ab) (ga : Nat → Int32) (k : Nat) : Nat → Int32 := gset (gset ga 480 (nI (aT A k))) 481 (nI (k + 1))
def aSee (A : Ab) (n : Nat) : Ab := ((aN A, aM A, n, aP A, aB A), aV A, aT A)
def aPlan (A : Ab) (n : Nat) : Ab := ((aN A, aM A, aS A, n, aB A), aV A, aT A)
def aBook (A : Ab) (n : Nat) : Ab := ((aN A, aM A, aS A, aP A, n), aV A, aT A)
def gTold (ga : Nat → Int32) (z n : Nat) (X Y : Int32) : Nat → Int32 := gset (gset (gset ga (z + 2 * n) X) (z + 2 * n + 1) Y) (z - 1) (nI (n + 1))
theorem gAdd_o {A : Ab} {ga : Nat → Int32} {y : Nat → Nat} {k : Nat} (h : k ≠ 480) (h2 : k < 4 * aN A ∨ 4 * aN A + 4 ≤ k) : gAdd A ga y k = ga k := by
  unfold gAdd
  rw [gset_n h, gset_n (by omega), gset_n (by omega), gset_n (by omega), gset_n (by omega)]
theorem gAdd_c {A : Ab} {ga : Nat → Int32} {y : Nat → Nat} (hn : aN A < 120) : ∀ c, c < 4 → gAdd A ga y (4 * aN A + c) = nI (y c) := by
  intro c hc
  unfold gAdd
  rw [gset_n (by omega)]
  rcases (by omega : c = 0 ∨ c = 1 ∨ c = 2 ∨ c = 3) with rfl | rfl | rfl | rfl
  · rw [gset_n (by omega), gset_n (by omega), gset_n (by omega)]; exact gset_s
  · rw [gset_n (by omega), gset_n (by omega)]; exact gset_s
  · rw [gset_n (by omega)]; exact gset_s
  · exact gset_s
theorem okAdd {A : Ab} {ga : Nat → Int32} {q : Nat} {y : Nat → Nat} (h : gaOK A ga q) (hn : aN A < 120) (hy : ∀ c, c < 4 → y c < 16) : gaOK (aAdd A y) (gAdd A ga y) q := by
  obtain ⟨⟨b1, b2, b3, b4, b5⟩, ⟨e1, e2, e3, e4, e5⟩, eV, eM, eMo, eS, eB⟩ := h
  refine ⟨⟨hn, b2, b3, b4, b5⟩, ⟨gset_s, ?_, ?_, ?_, ?_⟩, fun j hj c hc => ?_, fun i hi => ?_, eMo, fun i hi => ?_, fun i hi => ?_⟩
  · rw [gAdd_o (by decide) (by omega)]; exact e2
  · rw [gAdd_o (by decide) (by omega)]; exact e3
  · rw [gAdd_o (by decide) (by omega)]; exact e4
  · rw [gAdd_o (by decide) (by omega)]; exact e5
  · have hj : j < aN A + 1 := hj
    show gAdd A ga y (4 * j + c) = nI (vPush (aV A) (aN A) y j c) ∧ vPush (aV A) (aN A) y j c < 16
    unfold vPush
    by_cases e : j = aN A
    · subst e
      rw [if_pos rfl, gAdd_c hn c hc]
      exact ⟨rfl, hy c hc⟩
    · rw [if_neg e, gAdd_o (by omega) (by omega)]
      exact eV j (by omega) c hc
  · have hi : i < aM A := hi
    rw [gAdd_o (by omega) (by omega)]
    exact ⟨(eM i hi).1, Nat.le_succ_of_le (eM i hi).2⟩
  · have hi : i < aS A := hi
    rw [gAdd_o (by omega) (by omega)]
    exact eS i hi
  · have hi : i < aB A := hi
    rw [gAdd_o (by omega) (by omega)]
    exact eB i hi
theorem okMark {A : Ab} {ga : Nat → Int32} {q : Nat} (h : gaOK A ga q) (hn : aM A < 10) : gaOK (aMark A) (gMark A ga) q := by
  obtain ⟨⟨b1, b2, b3, b4, b5⟩, ⟨e1, e2, e3, e4, e5⟩, eV, eM, eMo, eS, eB⟩ := h
  have o : ∀ k, k ≠ 481 → k ≠ 482 + aM A → gMark A ga k = ga k := fun k h1 h2 => by
    unfold gMark; rw [gset_n h1, gset_n h2]
  refine ⟨⟨b1, hn, b3, b4, b5⟩, ⟨?_, gset_s, ?_, ?_, ?_⟩, fun j hj c hc => ?_, fun i hi => ?_, fun i k h1 h2 => ?_, fun i hi => ?_, fun i hi => ?_⟩
  · rw [o _ (by decide) (by omega)]; exact e1
  · rw [o _ (by decide) (by omega)]; exact e3
  · rw [o _ (by decide) (by omega)]; exact e4
  · rw [o _ (by decide) (by omega)]; exact e5
  · have hj : j < aN A := hj
    rw [o _ (by omega) (by omega)]; exact eV j hj c hc
  · have hi : i < aM A + 1 := hi
    show gMark A ga (482 + i) = nI (if i = aM A then aN A else aT A i) ∧ (if i = aM A then aN A else aT A i) ≤ aN A
    by_cases e : i = aM A
    · subst e
      rw [if_pos rfl]
      unfold gMark
      rw [gset_n (by omega), gset_s]
      exact ⟨rfl, Nat.le_refl _⟩
    · rw [if_neg e, o _ (by omega) (by omega)]; exact eM i (by omega)
  · have h2 : k < aM A + 1 := h2
    show (if i = aM A then aN A else aT A i) ≤ (if k = aM A then aN A else aT A k)
    by_cases e : k = aM A
    · rw [if_pos e]
      by_cases e2 : i = aM A
      · rw [if_pos e2]; exact Nat.le_refl _
      · rw [if_neg e2]; exact (eM i (by omega)).2
    · rw [if_neg e, if_neg (by omega)]; exact eMo i k h1 (by omega)
  · have hi : i < aS A := hi
    rw [o _ (by omega) (by omega)]; exact eS i hi
  · have hi : i < aB A := hi
    rw [o _ (by omega) (by omega)]; exact eB i hi
theorem okBack {A : Ab} {ga : Nat → Int32} {q k : Nat} (h : gaOK A ga q) (hk : k < aM A) : gaOK (aBack A k) (gBack A ga k) q := by
  obtain ⟨⟨b1, b2, b3, b4, b5⟩, ⟨e1, e2, e3, e4, e5⟩, eV, eM, eMo, eS, eB⟩ := h
  have o : ∀ j, j ≠ 481 → j ≠ 480 → gBack A ga k j = ga j := fun j h1 h2 => by
    unfold gBack; rw [gset_n h1, gset_n h2]
  have hm := (eM k hk).2
  refine ⟨⟨Nat.le_trans hm b1, Nat.le_trans hk b2, b3, b4, b5⟩, ⟨?_, gset_s, ?_, ?_, ?_⟩, fun j hj c hc => ?_, fun i hi => ?_, fun i j h1 h2 => ?_, fun i hi => ?_, fun i hi => ?_⟩
  · unfold gBack; rw [gset_n (by decide)]; exact gset_s
  · rw [o _ (by decide) (by decide)]; exact e3
  · rw [o _ (by decide) (by decide)]; exact e4
  · rw [o _ (by decide) (by decide)]; exact e5
  · have hj : j < aT A k := hj
    rw [o _ (by omega) (by omega)]; exact eV j (by omega) c hc
  · have hi : i < k + 1 := hi
    rw [o _ (by omega) (by omega)]
    exact ⟨(eM i (by omega)).1, eMo i k (by omega) hk⟩
  · have h2 : j < k + 1 := h2
    exact eMo i j h1 (by omega)
  · have hi : i < aS A := hi
    rw [o _ (by omega) (by omega)]; exact eS i hi
  · have hi : i < aB A := hi
    rw [o _ (by omega) (by omega)]; exact eB i hi
theorem gTold_o {ga : Nat → Int32} {z n k : Nat} {X Y : Int32} (h1 : k ≠ z - 1) (h2 : k ≠ z + 2 * n) (h3 : k ≠ z + 2 * n + 1) : gTold ga z n X Y k = ga k := by
  unfold gTold; rw [gset_n h1, gset_n h3, gset_n h2]
theorem gTold_c {ga : Nat → Int32} {z n : Nat} {X Y : Int32} : gTold ga z n X Y (z - 1) = nI (n + 1) := gset_s
theorem gTold_x {ga : Nat → Int32} {z n : Nat} {X Y : Int32} (hz : 0 < z) : gTold ga z n X Y (z + 2 * n) = X := by
  unfold gTold; rw [gset_n (by omega), gset_n (by omega)]; exact gset_s
theorem gTold_y {ga : Nat → Int32} {z n : Nat} {X Y : Int32} (hz : 0 < z) : gTold ga z n X Y (z + 2 * n + 1) = Y := by
  unfold gTold; rw [gset_n (by omega)]; exact gset_s
theorem okSee {A : Ab} {ga : Nat → Int32} {q : Nat} {X Y : Int32} (h : gaOK A ga q) (hn : aS A < 6) (hY : Y = 0 ∨ Y = 1) : gaOK (aSee A (aS A + 1)) (gTold ga 493 (aS A) X Y) q := by
  obtain ⟨⟨b1, b2, b3, b4, b5⟩, ⟨e1, e2, e3, e4, e5⟩, eV, eM, eMo, eS, eB⟩ := h
  refine ⟨⟨b1, b2, hn, b4, b5⟩, ⟨?_, ?_, gset_s, ?_, ?_⟩, fun j hj c hc => ?_, fun i hi => ?_, eMo, fun i hi => ?_, fun i hi => ?_⟩
  · rw [gTold_o (by decide) (by omega) (by omega)]; exact e1
  · rw [gTold_o (by decide) (by omega) (by omega)]; exact e2
  · rw [gTold_o (by decide) (by omega) (by omega)]; exact e4
  · rw [gTold_o (by decide) (by omega) (by omega)]; exact e5
  · have hj : j < aN A := hj
    rw [gTold_o (by omega) (by omega) (by omega)]; exact eV j hj c hc
  · have hi : i < aM A := hi
    rw [gTold_o (by omega) (by omega) (by omega)]; exact eM i hi
  · have hi : i < aS A + 1 := hi
    by_cases e : i = aS A
    · subst e; rw [gTold_y (by decide)]; exact hY
    · rw [gTold_o (by omega) (by omega) (by omega)]; exact eS i (by omega)
  · have hi : i < aB A := hi
    rw [gTold_o (by omega) (by omega) (by omega)]; exact eB i hi
theorem okPlan {A : Ab} {ga : Nat → Int32} {q : Nat} {X Y : Int32} (h : gaOK A ga q) (hn : aP A < 10) : gaOK (aPlan A (aP A + 1)) (gTold ga 506 (aP A) X Y) q := by
  obtain ⟨⟨b1, b2, b3, b4, b5⟩, ⟨e1, e2, e3, e4, e5⟩, eV, eM, eMo, eS, eB⟩ := h
  refine ⟨⟨b1, b2, b3, hn, b5⟩, ⟨?_, ?_, ?_, gset_s, ?_⟩, fun j hj c hc => ?_, fun i hi => ?_, eMo, fun i hi => ?_, fun i hi => ?_⟩
  · rw [gTold_o (by decide) (by omega) (by omega)]; exact e1
  · rw [gTold_o (by decide) (by omega) (by omega)]; exact e2
  · rw [gTold_o (by decide) (by omega) (by omega)]; exact e3
  · rw [gTold_o (by decide) (by omega) (by omega)]; exact e5
  · have hj : j < aN A := hj
    rw [gTold_o (by omega) (by omega) (by omega)]; exact eV j hj c hc
  · have hi : i < aM A := hi
    rw [gTold_o (by omega) (by omega) (by omega)]; exact eM i hi
  · have hi : i < aS A := hi
    rw [gTold_o (by omega) (by omega) (by omega)]; exact eS i hi
  · have hi : i < aB A := hi
    rw [gTold_o (by omega) (by omega) (by omega)]; exact eB i hi
theorem okBook {A : Ab} {ga : Nat → Int32} {q k : Nat} {Y : Int32} (h : gaOK A ga q) (hn : aB A < 8) (hk : k < q) : gaOK (aBook A (aB A + 1)) (gTold ga 527 (aB A) (nI k) Y) q := by
  obtain ⟨⟨b1, b2, b3, b4, b5⟩, ⟨e1, e2, e3, e4, e5⟩, eV, eM, eMo, eS, eB⟩ := h
  refine ⟨⟨b1, b2, b3, b4, hn⟩, ⟨?_, ?_, ?_, ?_, gset_s⟩, fun j hj c hc => ?_, fun i hi => ?_, eMo, fun i hi => ?_, fun i hi => ?_⟩
  · rw [gTold_o (by decide) (by omega) (by omega)]; exact e1
  · rw [gTold_o (by decide) (by omega) (by omega)]; exact e2
  · rw [gTold_o (by decide) (by omega) (by omega)]; exact e3
  · rw [gTold_o (by decide) (by omega) (by omega)]; exact e4
  · have hj : j < aN A := hj
    rw [gTold_o (by omega) (by omega) (by omega)]; exact eV j hj c hc
  · have hi : i < aM A := hi
    rw [gTold_o (by omega) (by omega) (by omega)]; exact eM i hi
  · have hi : i < aS A := hi
    rw [gTold_o (by omega) (by omega) (by omega)]; exact eS i hi
  · have hi : i < aB A + 1 := hi
    by_cases e : i = aB A
    · subst e; exact ⟨k, hk, gTold_x (by decide)⟩
    · rw [gTold_o (by omega) (by omega) (by omega)]; exact eB i (by omega)
/-- nothing is told any more -/
theorem okClr {A A' : Ab} {ga : Nat → Int32} {q k : Nat} (h : gaOK A ga q) (hA : (k = 492 ∧ A' = aSee A 0) ∨ (k = 505 ∧ A' = aPlan A 0) ∨ (k = 526 ∧ A' = aBook A 0)) : gaOK A' (gset ga k 0) q := by
  obtain ⟨⟨b1, b2, b3, b4, b5⟩, ⟨e1, e2, e3, e4, e5⟩, eV, eM, eMo, eS, eB⟩ := h
  rcases hA with ⟨rfl, rfl⟩ | ⟨rfl, rfl⟩ | ⟨rfl, rfl⟩
  · refine ⟨⟨b1, b2, Nat.zero_le _, b4, b5⟩, ⟨(gset_n (by decide)).trans e1, (gset_n (by decide)).trans e2, gset_s, (gset_n (by decide)).trans e4, (gset_n (by decide)).trans e5⟩, fun j hj c hc => ?_, fun i hi => ?_, eMo, fun i hi => absurd hi (Nat.not_lt_zero _), fun i hi => ?_⟩
    · have hj : j < aN A := hj
      rw [gset_n (by omega)]; exact eV j hj c hc
    · have hi : i < aM A := hi
      rw [gset_n (by omega)]; exact eM i hi
    · have hi : i < aB A := hi
      rw [gset_n (by omega)]; exact eB i hi
  · refine ⟨⟨b1, b2, b3, Nat.zero_le _, b5⟩, ⟨(gset_n (by decide)).trans e1, (gset_n (by decide)).trans e2, (gset_n (by decide)).trans e3, gset_s, (gset_n (by decide)).trans e5⟩, fun j hj c hc => ?_, fun i hi => ?_, eMo, fun i hi => ?_, fun i hi => ?_⟩
    · have hj : j < aN A := hj
      rw [gset_n (by omega)]; exact eV j hj c hc
    · have hi : i < aM A := hi
      rw [gset_n (by omega)]; exact eM i hi
    · have hi : i < aS A := hi
      rw [gset_n (by omega)]; exact eS i hi
    · have hi : i < aB A := hi
      rw [gset_n (by omega)]; exact eB i hi
  · refine ⟨⟨b1, b2, b3, b4, Nat.zero_le _⟩, ⟨(gset_n (by decide)).trans e1, (gset_n (by decide)).trans e2, (gset_n (by decide)).trans e3, (gset_n (by decide)).trans e4, gset_s⟩, fun j hj c hc => ?_, fun i hi => ?_, eMo, fun i hi => ?_, fun i hi => absurd hi (Nat.not_lt_zero _)⟩
    · have hj : j < aN A := hj
      rw [gset_n (by omega)]; exact eV j hj c hc
    · have hi : i < aM A := hi
      rw [gset_n (by omega)]; exact eM i hi
    · have hi : i < aS A := hi
      rw [gset_n (by omega)]; exact eS i hi
theorem rPairs.ga {S : zSt} {a cap n z : Nat} {ga ga' : Nat → Int32} (h : rPairs S a cap n z ga) (hg : ∀ k, z ≤ k → k < z + 2 * n → ga' k = ga k) : rPairs S a cap n z ga' :=
  ⟨h.1, h.2.1, fun i hi => ⟨(h.2.2 i hi).1.trans (hg _ (by omega) (by omega)).symm, (h.2.2 i hi).2.trans (hg _ (by omega) (by omega)).symm⟩⟩
theorem rPairs.app {S : zSt} {a cap n z : Nat} {ga ga' : Nat → Int32} {X Y : Int32} (h : rPairs S a cap n z ga) (hg : ∀ k, z ≤ k → k < z + 2 * n → ga' k = ga k) (h1 : ga' (z + 2 * n) = X) (h2 : ga' (z + 2 * n + 1) = Y) : rPairs (zsi (zsa (zsa S (a + 1) n X) (a + 2) n Y) a 3 (nI (n + 1))) a cap (n + 1) z ga' := by
  refine ⟨(zup_ne (by omega)).trans h.1, zup_same, fun i hi => ?_⟩
  by_cases e : i = n
  · subst e
    exact ⟨((zup_ne (by omega)).trans zup_same).trans h1.symm, zup_same.trans h2.symm⟩
  · exact ⟨((zup_ne (by omega)).trans (zup_ne (by omega))).trans ((h.2.2 i (by omega)).1.trans (hg _ (by omega) (by omega)).symm), ((zup_ne (by omega)).trans (zup_ne (by omega))).trans ((h.2.2 i (by omega)).2.trans (hg _ (by omega) (by omega)).symm)⟩
theorem rPairs.clr {S : zSt} {a cap n z : Nat} {ga ga' : Nat → Int32} (h : rPairs S a cap n z ga) : rPairs (zsi S a 3 0) a cap 0 z ga' :=
  ⟨(zup_ne (by omega)).trans h.1, zup_same, fun i hi => absurd hi (Nat.not_lt_zero _)⟩
theorem frApp {S : zSt} {a n : Nat} {X Y : Int32} {P : Nat → Prop} (h0 : P a) (h1 : P (a + 1)) (h2 : P (a + 2)) {v : Int32} : frS S P (zsi (zsa (zsa S (a + 1) n X) (a + 2) n Y) a 3 v) :=
  ((frS.seta h1).trans (frS.seta h2)).trans (frS.seti h0)

