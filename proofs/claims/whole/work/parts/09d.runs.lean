/-! ===== runs of bits ===== -/
def chg (f : Nat → Bool) (j : Nat) : Bool := decide (j = 0) || (f j != f (j - 1))
def runsN (f : Nat → Bool) (n : Nat) : Nat := fb_ct (chg f) n
def rE (f : Nat → Bool) (s n : Nat) : Nat → Nat → Nat
  | 0, p => p
  | k + 1, p => if p < n ∧ f p = f s then rE f s n k (p + 1) else p
def rEnd (f : Nat → Bool) (s n : Nat) : Nat := rE f s n (n - (s + 1)) (s + 1)
theorem rE_spec (f : Nat → Bool) (s n : Nat) : ∀ k p, n - p = k → p ≤ n → p ≤ rE f s n k p ∧ rE f s n k p ≤ n ∧ (∀ q, p ≤ q → q < rE f s n k p → f q = f s) ∧ (rE f s n k p < n → f (rE f s n k p) ≠ f s)
  | 0, p, hk, hp => ⟨Nat.le_refl _, hp, fun q h1 h2 => by have h3 : q < p := h2; omega, fun h => by have h3 : p < n := h; omega⟩
  | k + 1, p, hk, hp => by
    unfold rE
    by_cases h : p < n ∧ f p = f s
    · rw [if_pos h]
      obtain ⟨h1, h2, h3, h4⟩ := rE_spec f s n k (p + 1) (by omega) (by omega)
      refine ⟨by omega, h2, fun q q1 q2 => ?_, h4⟩
      by_cases hq : q = p
      · rw [hq]; exact h.2
      · exact h3 q (by omega) q2
    · rw [if_neg h]
      exact ⟨Nat.le_refl _, hp, fun q h1 h2 => by omega, fun hlt he => h ⟨hlt, he⟩⟩
theorem rEnd_spec {f : Nat → Bool} {s n : Nat} (h : s < n) : s < rEnd f s n ∧ rEnd f s n ≤ n ∧ (∀ q, s ≤ q → q < rEnd f s n → f q = f s) ∧ (rEnd f s n < n → f (rEnd f s n) ≠ f s) := by
  obtain ⟨h1, h2, h3, h4⟩ := rE_spec f s n (n - (s + 1)) (s + 1) rfl h
  refine ⟨h1, h2, fun q q1 q2 => ?_, h4⟩
  by_cases hq : q = s
  · rw [hq]
  · exact h3 q (by omega) q2
def rSt (f : Nat → Bool) (n : Nat) : Nat → Nat
  | 0 => 0
  | i + 1 => rEnd f (rSt f n i) n
/-- between the begin of a run and its end there is no other begin -/
theorem chg_in {f : Nat → Bool} {s n : Nat} (h : s < n) : ∀ q, s < q → q < rEnd f s n → chg f q = false := by
  obtain ⟨-, -, h3, -⟩ := rEnd_spec (f := f) h
  intro q h1 h2
  unfold chg
  rw [h3 q (by omega) h2, h3 (q - 1) (by omega) (by omega)]
  simp
  omega
theorem chg_end {f : Nat → Bool} {s n : Nat} (h : s < n) (he : rEnd f s n < n) : chg f (rEnd f s n) = true := by
  obtain ⟨h1, h2, h3, h4⟩ := rEnd_spec (f := f) h
  unfold chg
  rw [h3 (rEnd f s n - 1) (by omega) (by omega)]
  have := h4 he
  simp [this]
theorem ct_gap {p : Nat → Bool} {s e : Nat} (h : s < e) (hs : p s = true) (hg : ∀ q, s < q → q < e → p q = false) : fb_ct p e = fb_ct p s + 1 := by
  obtain ⟨k, rfl⟩ : ∃ k, e = s + 1 + k := ⟨e - (s + 1), by omega⟩
  rw [fb_ct_split, fb_ct_succ, hs, if_pos rfl, fb_ct_zero (p := fun k => p (s + 1 + k)) (n := k) |>.mpr (fun j hj => hg _ (by omega) (by omega))]
theorem rSt_spec {f : Nat → Bool} {n : Nat} : ∀ i, i < runsN f n → rSt f n i < n ∧ chg f (rSt f n i) = true ∧ fb_ct (chg f) (rSt f n i) = i
  | 0, h => by
    refine ⟨?_, by simp [rSt, chg], rfl⟩
    show 0 < n
    rcases Nat.eq_zero_or_pos n with q | q
    · rw [q] at h; exact absurd h (by simp [runsN, fb_ct])
    · exact q
  | i + 1, h => by
    obtain ⟨h1, h2, h3⟩ := rSt_spec (f := f) (n := n) i (by omega)
    obtain ⟨e1, e2, -, -⟩ := rEnd_spec (f := f) h1
    have hc := ct_gap e1 h2 (chg_in h1)
    show rEnd f (rSt f n i) n < n ∧ chg f (rEnd f (rSt f n i) n) = true ∧ fb_ct (chg f) (rEnd f (rSt f n i) n) = i + 1
    have hlt : rEnd f (rSt f n i) n < n := by
      rcases Nat.lt_or_ge (rEnd f (rSt f n i) n) n with q | q
      · exact q
      · exfalso
        have e : rEnd f (rSt f n i) n = n := by omega
        rw [e] at hc
        unfold runsN at h
        omega
    exact ⟨hlt, chg_end h1 hlt, by rw [hc, h3]⟩
/-- the value of a run is told by its number -/
theorem rSt_par {f : Nat → Bool} {n : Nat} : ∀ i, i < runsN f n → f (rSt f n i) = (f 0 == decide (i % 2 = 0))
  | 0, _ => by simp [rSt]
  | i + 1, h => by
    obtain ⟨h1, h2, h3⟩ := rSt_spec (f := f) (n := n) i (by omega)
    obtain ⟨g1, -, -⟩ := rSt_spec (f := f) (n := n) (i + 1) h
    have ih := rSt_par (f := f) (n := n) i (by omega)
    have h4 := (rEnd_spec (f := f) h1).2.2.2 g1
    have h5 : f (rSt f n (i + 1)) = !f (rSt f n i) := by
      have : f (rSt f n (i + 1)) ≠ f (rSt f n i) := h4
      revert this
      cases f (rSt f n (i + 1)) <;> cases f (rSt f n i) <;> simp
    rw [h5, ih]
    by_cases hp : i % 2 = 0
    · rw [show decide ((i + 1) % 2 = 0) = false by simp; omega, show decide (i % 2 = 0) = true by simp [hp]]
      cases f 0 <;> rfl
    · rw [show decide ((i + 1) % 2 = 0) = true by simp; omega, show decide (i % 2 = 0) = false by simp [hp]]
      cases f 0 <;> rfl
theorem runsN_cong {f g : Nat → Bool} {n : Nat} (h : ∀ j, j < n → f j = g j) : runsN f n = runsN g n :=
  fb_ct_cong (fun j hj => by unfold chg; rw [h j hj, h (j - 1) (by omega)])
theorem runsN_le (f : Nat → Bool) (n : Nat) : runsN f n ≤ n := fb_ct_le _ n
theorem rE_cong {f g : Nat → Bool} {s n : Nat} (h : ∀ j, j < n → f j = g j) (hs : s < n) : ∀ k p, rE f s n k p = rE g s n k p
  | 0, p => rfl
  | k + 1, p => by
    unfold rE
    rw [rE_cong h hs k (p + 1)]
    by_cases hp : p < n
    · rw [h p hp, h s hs]
    · rw [if_neg (fun q => hp q.1), if_neg (fun q => hp q.1)]
theorem rEnd_cong {f g : Nat → Bool} {s n : Nat} (h : ∀ j, j < n → f j = g j) (hs : s < n) : rEnd f s n = rEnd g s n := rE_cong h hs _ _
/-- the k-th one below n -/
def kOne (f : Nat → Bool) (n : Nat) (k : Int32) : Int32 := match (List.range n).find? (fun p => f p && decide (nI (fb_ct f p) = k)) with
  | some p => nI p
  | none => -5
theorem kOne_some {f : Nat → Bool} {n p : Nat} {k : Int32} (hp : p < n) (hf : f p = true) (hk : nI (fb_ct f p) = k) (hn : n < 2 ^ 31) : kOne f n k = nI p := by
  unfold kOne
  cases h : (List.range n).find? (fun p => f p && decide (nI (fb_ct f p) = k)) with
  | none =>
    have := List.find?_eq_none.mp h p (List.mem_range.mpr hp)
    simp [hf, hk] at this
  | some q =>
    have h1 := List.find?_some h
    have h2 := List.mem_range.mp (List.mem_of_find?_eq_some h)
    simp only [Bool.and_eq_true, decide_eq_true_eq] at h1
    have b1 := fb_ct_le f p
    have b2 := fb_ct_le f q
    have h3 : fb_ct f p = fb_ct f q := (nI_eq (by omega) (by omega)).mp (hk.trans h1.2.symm)
    rw [fb_ct_kth_one hf h1.1 h3]
theorem kOne_none {f : Nat → Bool} {n : Nat} {k : Int32} (h : ∀ p, p < n → f p = true → ¬ nI (fb_ct f p) = k) : kOne f n k = -5 := by
  unfold kOne
  rw [List.find?_eq_none.mpr (fun p hp => by
    simp only [Bool.and_eq_true, decide_eq_true_eq, not_and]
    exact h p (List.mem_range.mp hp))]
theorem kOne_cong {f g : Nat → Bool} {n : Nat} {k : Int32} (hn : n < 2 ^ 31) (h : ∀ j, j < n → f j = g j) : kOne f n k = kOne g n k := by
  by_cases hx : ∃ p, p < n ∧ f p = true ∧ nI (fb_ct f p) = k
  · obtain ⟨p, h1, h2, h3⟩ := hx
    rw [kOne_some h1 h2 h3 hn, kOne_some h1 (by rw [← h p h1]; exact h2) (by rw [← h3, fb_ct_cong (fun j hj => h j (by omega))]) hn]
  · rw [kOne_none (fun p h1 h2 h3 => hx ⟨p, h1, h2, h3⟩), kOne_none (fun p h1 h2 h3 => hx ⟨p, h1, by rw [h p h1]; exact h2, by rw [← h3, fb_ct_cong (fun j hj => h j (by omega))]⟩)]
theorem ct_cut (p : Nat → Bool) {m n : Nat} (h : m ≤ n) : fb_ct (fun j => p j && decide (j < m)) n = fb_ct p m := by
  obtain ⟨k, rfl⟩ : ∃ k, n = m + k := ⟨n - m, by omega⟩
  rw [fb_ct_split, fb_ct_zero (p := fun k => p (m + k) && decide (m + k < m)) (n := k) |>.mpr (fun j hj => by simp), Nat.add_zero]
  exact fb_ct_cong (fun j hj => by simp [hj])
theorem runsN_diff (f : Nat → Bool) {n : Nat} (h : 0 < n) : runsN f n = fb_ct (fun j => f j ^^ f (j + 1)) (n - 1) + 1 := by
  obtain ⟨m, rfl⟩ : ∃ m, n = 1 + m := ⟨n - 1, by omega⟩
  unfold runsN
  rw [fb_ct_split, show fb_ct (chg f) 1 = 1 by simp [fb_ct, chg], Nat.add_comm, show 1 + m - 1 = m by omega]
  congr 1
  refine fb_ct_cong (fun j hj => ?_)
  unfold chg
  rw [show 1 + j - 1 = j by omega, show 1 + j = j + 1 by omega]
  simp
  cases f j <;> cases f (j + 1) <;> rfl

