/-! ===== the model: words of the text ===== -/
def wEn (tx : Nat → Int32) (L : Nat) : Nat → Nat → Nat
  | 0, p => p
  | d + 1, p => if isLet (sgn tx L p) = true then wEn tx L d (p + 1) else p
/-- where the letters from p on end -/
def wE (tx : Nat → Int32) (L p : Nat) : Nat := wEn tx L (L - p) p
def wvN (tx : Nat → Int32) (p : Nat) : Nat → Int32
  | 0 => 0
  | d + 1 => if d < 5 then 32 * wvN tx p d + tx (p + d) - 97 + 1 else 2000000000
/-- the number of a word -/
def wV (tx : Nat → Int32) (L p : Nat) : Int32 := wvN tx p (wE tx L p - p)
def wcode : Nat → Nat
  | 0 => 498
  | 1 => 1476
  | 2 => 14836
  | 3 => 1420
  | 4 => 307
  | 5 => 2273783
  | _ => 302
def wnN (l : Nat → Nat) : Nat → Nat
  | 0 => 0
  | d + 1 => 32 * wnN l d + l d
theorem wnN_inj {l c : Nat → Nat} : ∀ n m, (∀ k, k < n → 1 ≤ l k ∧ l k ≤ 26) → (∀ k, k < m → 1 ≤ c k ∧ c k ≤ 26) → wnN l n = wnN c m → n = m ∧ ∀ k, k < n → l k = c k
  | 0, 0, _, _, _ => ⟨rfl, fun k hk => absurd hk (Nat.not_lt_zero _)⟩
  | 0, m + 1, _, h2, h => by
    have := (h2 m (by omega)).1
    have e : (0 : Nat) = 32 * wnN c m + c m := h
    omega
  | n + 1, 0, h1, _, h => by
    have := (h1 n (by omega)).1
    have e : 32 * wnN l n + l n = (0 : Nat) := h
    omega
  | n + 1, m + 1, h1, h2, h => by
    have a1 := h1 n (by omega)
    have a2 := h2 m (by omega)
    have e : 32 * wnN l n + l n = 32 * wnN c m + c m := h
    obtain ⟨e1, e2⟩ := wnN_inj n m (fun k hk => h1 k (by omega)) (fun k hk => h2 k (by omega)) (by omega)
    subst e1
    refine ⟨rfl, fun k hk => ?_⟩
    by_cases q : k = n
    · subst q; omega
    · exact e2 k (by omega)
theorem wnN_lt {l : Nat → Nat} : ∀ n, n ≤ 5 → (∀ k, k < n → 1 ≤ l k ∧ l k ≤ 26) → wnN l n < 32 ^ n
  | 0, _, _ => (by decide : (0 : Nat) < 1)
  | n + 1, h0, h => by
    have ih := wnN_lt n (by omega) (fun k hk => h k (by omega))
    have a := (h n (by omega)).2
    show 32 * wnN l n + l n < 32 ^ (n + 1)
    rw [Nat.pow_succ]
    omega
section WD
variable {tx : Nat → Int32} {L p : Nat}
theorem wEn_spec : ∀ d p, L ≤ p + d → p ≤ wEn tx L d p ∧ (∀ q, p ≤ q → q < wEn tx L d p → isLet (sgn tx L q) = true) ∧ isLet (sgn tx L (wEn tx L d p)) = false
  | 0, p, h => by
    refine ⟨Nat.le_refl _, fun q h1 h2 => ?_, ?_⟩
    · have h2 : q < p := h2
      omega
    · show isLet (sgn tx L p) = false
      unfold sgn
      rw [if_neg (by omega)]
      decide
  | d + 1, p, h => by
    unfold wEn
    by_cases q : isLet (sgn tx L p) = true
    · rw [if_pos q]
      obtain ⟨h1, h2, h3⟩ := wEn_spec d (p + 1) (by omega)
      refine ⟨by omega, fun r r1 r2 => ?_, h3⟩
      by_cases e : r = p
      · rw [e]; exact q
      · exact h2 r (by omega) r2
    · rw [if_neg q]
      exact ⟨Nat.le_refl _, fun r r1 r2 => by omega, by simpa using q⟩
theorem wE_spec : p ≤ wE tx L p ∧ (∀ q, p ≤ q → q < wE tx L p → isLet (sgn tx L q) = true) ∧ isLet (sgn tx L (wE tx L p)) = false := wEn_spec (L - p) p (by omega)
theorem isLet_in {q : Nat} (h : isLet (sgn tx L q) = true) : q < L ∧ sgn tx L q = tx q ∧ ∃ l, 1 ≤ l ∧ l ≤ 26 ∧ tx q = nI (96 + l) := by
  have hq := sgn_in (tx := tx) (L := L) (p := q) (fun e => by rw [e, isLet_m1] at h; cases h)
  have e : sgn tx L q = tx q := if_pos hq
  rw [e] at h
  obtain ⟨h1, h2⟩ := of_decide_eq_true h
  obtain ⟨j, hj, ej⟩ := nI_of (x := tx q) (Int32.not_lt.mpr (Int32.le_trans (show (0 : Int32) ≤ 97 by decide) h1))
  rw [ej] at h1 h2
  have a1 := (nI_leI (a := 97) (by decide) hj).mp h1
  have a2 := (nI_leI (b := 122) hj (by decide)).mp h2
  exact ⟨hq, e, j - 96, by omega, by omega, by rw [ej]; congr 1; omega⟩
theorem wE_le (hp : p ≤ L) : wE tx L p ≤ L := by
  obtain ⟨h1, h2, h3⟩ := wE_spec (tx := tx) (L := L) (p := p)
  rcases Nat.lt_or_ge L (wE tx L p) with q | q
  · have := (isLet_in (h2 (wE tx L p - 1) (by omega) (by omega))).1
    omega
  · exact q
theorem wE_uniq {e : Nat} (h0 : p ≤ e) (h1 : ∀ q, p ≤ q → q < e → isLet (sgn tx L q) = true) (h2 : isLet (sgn tx L e) = false) : wE tx L p = e := by
  obtain ⟨g1, g2, g3⟩ := wE_spec (tx := tx) (L := L) (p := p)
  rcases Nat.lt_trichotomy (wE tx L p) e with q | q | q
  · rw [h1 _ g1 q] at g3; cases g3
  · exact q
  · rw [g2 _ h0 q] at h2; cases h2
theorem wstep (w l : Nat) (hl : 1 ≤ l) : (32 : Int32) * nI w + nI (96 + l) - 97 + 1 = nI (32 * w + l) := by
  rw [show (32 : Int32) = nI 32 from rfl, nI_mulN, nI_add, show (97 : Int32) = nI 97 from rfl, pk_sub (by omega), nI_1]
  congr 1
  omega
theorem wvN_n {l : Nat → Nat} : ∀ n, n ≤ 5 → (∀ k, k < n → 1 ≤ l k ∧ tx (p + k) = nI (96 + l k)) → wvN tx p n = nI (wnN l n)
  | 0, _, _ => rfl
  | n + 1, h0, h => by
    have ih := wvN_n n (by omega) (fun k hk => h k (by omega))
    obtain ⟨a1, a2⟩ := h n (by omega)
    show (if n < 5 then 32 * wvN tx p n + tx (p + n) - 97 + 1 else 2000000000) = nI (32 * wnN l n + l n)
    rw [if_pos (by omega), ih, a2, wstep _ _ a1]
theorem wvN_big {n : Nat} (h : 5 < n) : wvN tx p n = 2000000000 := by
  obtain ⟨k, rfl⟩ : ∃ k, n = k + 1 := ⟨n - 1, by omega⟩
  show (if k < 5 then _ else (2000000000 : Int32)) = _
  rw [if_neg (by omega)]
/-- the letters of a word, as numbers -/
def wl (i k : Nat) : Nat := (wby i k).toNatClampNeg - 96
theorem wl_ok : ∀ i, i < 7 → ∀ k, k < wln i → 1 ≤ wl i k ∧ wl i k ≤ 26 ∧ wby i k = nI (96 + wl i k) ∧ isLet (wby i k) = true := by decide +kernel
theorem wl_code : ∀ i, i < 7 → wnN (wl i) (wln i) = wcode i ∧ nI (wcode i) ≠ 2000000000 ∧ wcode i < 2 ^ 31 := by decide +kernel
theorem isW_wE {i : Nat} (hi : i < 7) (h : isW tx L p i = true) : wE tx L p = p + wln i :=
  wE_uniq (Nat.le_add_right _ _) (fun q q1 q2 => by
    have e := isW_sg h (k := q - p) (by omega)
    rw [show p + (q - p) = q by omega] at e
    rw [e]
    exact (wl_ok i hi _ (by omega)).2.2.2) (isW_at h)
/-- the letters that stand at p, as numbers -/
theorem lts : ∃ l : Nat → Nat, ∀ k, k < wE tx L p - p → 1 ≤ l k ∧ l k ≤ 26 ∧ tx (p + k) = nI (96 + l k) := by
  obtain ⟨g1, g2, g3⟩ := wE_spec (tx := tx) (L := L) (p := p)
  refine ⟨fun k => (tx (p + k)).toNatClampNeg - 96, fun k hk => ?_⟩
  obtain ⟨-, -, l, l1, l2, e⟩ := isLet_in (g2 (p + k) (by omega) (by omega))
  show 1 ≤ (tx (p + k)).toNatClampNeg - 96 ∧ (tx (p + k)).toNatClampNeg - 96 ≤ 26 ∧ tx (p + k) = nI (96 + ((tx (p + k)).toNatClampNeg - 96))
  rw [e, nI_clamp (by omega), show 96 + l - 96 = l by omega]
  exact ⟨l1, l2, rfl⟩
theorem wv_is {i : Nat} (hi : i < 7) : wV tx L p = nI (wcode i) ↔ isW tx L p i = true := by
  obtain ⟨l, hl⟩ := lts (tx := tx) (L := L) (p := p)
  obtain ⟨g1, g2, g3⟩ := wE_spec (tx := tx) (L := L) (p := p)
  obtain ⟨c1, c2, c3⟩ := wl_code i hi
  have wp := wln_pos i hi
  unfold wV
  constructor
  · intro h
    rcases Nat.lt_or_ge 5 (wE tx L p - p) with q | q
    · rw [wvN_big q] at h
      exact absurd h.symm c2
    · rw [wvN_n (wE tx L p - p) q (fun k hk => ⟨(hl k hk).1, (hl k hk).2.2⟩)] at h
      have lt := wnN_lt (wE tx L p - p) q (fun k hk => ⟨(hl k hk).1, (hl k hk).2.1⟩)
      have l31 : wnN l (wE tx L p - p) < 2 ^ 31 := Nat.lt_of_lt_of_le lt (Nat.le_trans (Nat.pow_le_pow_right (by decide) q) (by decide))
      have h := (nI_eq l31 c3).mp h
      rw [← c1] at h
      obtain ⟨e1, e2⟩ := wnN_inj _ _ (fun k hk => ⟨(hl k hk).1, (hl k hk).2.1⟩) (fun k hk => ⟨(wl_ok i hi k hk).1, (wl_ok i hi k hk).2.1⟩) h
      unfold isW
      rw [Bool.and_eq_true]
      refine ⟨allB_t (fun k hk => ?_), ?_⟩
      · have hk2 : k < wE tx L p - p := by omega
        have e : sgn tx L (p + k) = wby i k := by
          rw [(isLet_in (g2 (p + k) (by omega) (by omega))).2.1, (hl k hk2).2.2, e2 k hk2]
          exact (wl_ok i hi k hk).2.2.1.symm
        show (sgn tx L (p + k) == wby i k) = true
        rw [e]
        exact beq_self_eq_true _
      · rw [show p + wln i = wE tx L p by omega, g3]
        rfl
  · intro h
    have e := isW_wE hi h
    rw [e, show p + wln i - p = wln i by omega, wvN_n (l := wl i) (wln i) (by omega) (fun k hk => ⟨(wl_ok i hi k hk).1, ?_⟩), c1]
    have s := isW_sg h hk
    have hin := isW_in hi h
    rw [show sgn tx L (p + k) = tx (p + k) from if_pos (by omega)] at s
    rw [s]
    exact (wl_ok i hi k hk).2.2.1
/-- a column stands there -/
theorem wv_col : (1 ≤ wV tx L p ∧ wV tx L p ≤ 4) ↔ ((97 ≤ sgn tx L p ∧ sgn tx L p < 101) ∧ isLet (sgn tx L (p + 1)) = false) := by
  obtain ⟨l, hl⟩ := lts (tx := tx) (L := L) (p := p)
  obtain ⟨g1, g2, g3⟩ := wE_spec (tx := tx) (L := L) (p := p)
  unfold wV
  constructor
  · intro h
    rcases Nat.lt_or_ge 5 (wE tx L p - p) with q | q
    · rw [wvN_big q] at h
      exact absurd h.2 (by decide)
    · rw [wvN_n (wE tx L p - p) q (fun k hk => ⟨(hl k hk).1, (hl k hk).2.2⟩)] at h
      have lt := wnN_lt (wE tx L p - p) q (fun k hk => ⟨(hl k hk).1, (hl k hk).2.1⟩)
      have l31 : wnN l (wE tx L p - p) < 2 ^ 31 := Nat.lt_of_lt_of_le lt (Nat.le_trans (Nat.pow_le_pow_right (by decide) q) (by decide))
      have h1 := i_le (a := 1) (by decide) l31 h.1
      have h2 := i_le (b := 4) l31 (by decide) h.2
      have hn : wE tx L p - p = 1 := by
        rcases Nat.lt_trichotomy (wE tx L p - p) 1 with z | z | z
        · rw [show wE tx L p - p = 0 by omega] at h1
          exact absurd h1 (by show ¬ 1 ≤ 0; omega)
        · exact z
        · obtain ⟨d, hd⟩ : ∃ d, wE tx L p - p = d + 2 := ⟨wE tx L p - p - 2, by omega⟩
          rw [hd] at h2
          have e : wnN l (d + 2) = 32 * (32 * wnN l d + l d) + l (d + 1) := rfl
          have := (hl d (by omega)).1
          omega
      rw [hn] at h1 h2
      have e : wnN l 1 = 32 * 0 + l 0 := rfl
      have t0 := (hl 0 (by omega)).2.2
      have s0 := (isLet_in (g2 p (Nat.le_refl _) (by omega))).2.1
      rw [Nat.add_zero] at t0
      rw [s0, t0]
      refine ⟨⟨nI_le (a := 97) (by omega) (by omega), nI_lt (b := 101) (by omega) (by decide)⟩, ?_⟩
      rw [show p + 1 = wE tx L p by omega]
      exact g3
  · intro h
    have hp : isLet (sgn tx L p) = true := decide_eq_true ⟨h.1.1, Int32.le_trans (Int32.le_of_lt h.1.2) (by decide)⟩
    have e : wE tx L p = p + 1 := wE_uniq (Nat.le_succ _) (fun q q1 q2 => by rw [show q = p by omega]; exact hp) h.2
    rw [e, show p + 1 - p = 1 by omega, wvN_n 1 (by decide) (fun k hk => ⟨(hl k (by omega)).1, (hl k (by omega)).2.2⟩)]
    obtain ⟨a1, a2, a3⟩ := hl 0 (by omega)
    have s0 := (isLet_in hp).2.1
    rw [Nat.add_zero] at a3
    rw [s0, a3] at h
    have b2 := i_lt (b := 101) (by omega) (by decide) h.1.2
    have e2 : wnN l 1 = 32 * 0 + l 0 := rfl
    exact ⟨nI_le (a := 1) (by omega) (by omega), nI_le (b := 4) (by omega) (by decide)⟩
theorem wv_colv (h : (97 ≤ sgn tx L p ∧ sgn tx L p < 101) ∧ isLet (sgn tx L (p + 1)) = false) : wV tx L p - 1 = sgn tx L p - 97 := by
  obtain ⟨l, hl⟩ := lts (tx := tx) (L := L) (p := p)
  have hp : isLet (sgn tx L p) = true := decide_eq_true ⟨h.1.1, Int32.le_trans (Int32.le_of_lt h.1.2) (by decide)⟩
  have e : wE tx L p = p + 1 := wE_uniq (Nat.le_succ _) (fun q q1 q2 => by rw [show q = p by omega]; exact hp) h.2
  unfold wV
  rw [e, show p + 1 - p = 1 by omega, wvN_n 1 (by decide) (fun k hk => ⟨(hl k (by omega)).1, (hl k (by omega)).2.2⟩)]
  obtain ⟨a1, a2, a3⟩ := hl 0 (by omega)
  rw [Nat.add_zero] at a3
  rw [(isLet_in hp).2.1, a3, show wnN l 1 = l 0 by show 32 * 0 + l 0 = l 0; omega, show (1 : Int32) = nI 1 from rfl, pk_sub a1, show (97 : Int32) = nI 97 from rfl, pk_sub (by omega)]
  congr 1
  omega
end WD

