section LMATH1
-- the law's own two arrays: 40 the lists in a row, 41 the six numbers
def nTop (τ : St) : Int := 1000 + 50 * (τ 41 0 0 - 1)
abbrev nEnd (τ : St) : Prop := τ 40 (nTop τ) 0 ≤ τ 40 (nTop τ + 49) 0
def nPop (τ : St) : St := ups τ 41 0 0 (τ 41 0 0 - 1)
def nCpP (τ : St) (f t k : Int) : St := fun u i j => if u = 40 ∧ j = 0 ∧ t ≤ i ∧ i < t + k then τ 40 (i - t + f) 0 else τ u i j
def nCopy (τ : St) (q t : Int) : St := ups (ups (nCpP τ (50 * q) t 48) 40 (t + 48) 0 q) 40 (t + 49) 0 0
theorem nCpP_0 (τ : St) (f t : Int) : nCpP τ f t 0 = τ := by
  funext u i j
  unfold nCpP
  rw [if_neg (by omega)]
theorem nCpP_rd (τ : St) {f t k i : Int} (h : i < t) : nCpP τ f t k 40 i 0 = τ 40 i 0 := by
  unfold nCpP
  rw [if_neg (by omega)]
theorem nCpP_o (τ : St) (f t k : Int) {u : Nat} (h : u ≠ 40) (i j : Int) : nCpP τ f t k u i j = τ u i j := by
  unfold nCpP
  rw [if_neg (by omega)]
theorem nCpP_s (τ : St) {f t k : Int} (h : 0 ≤ k) : ups (nCpP τ f t k) 40 (t + k) 0 (τ 40 (f + k) 0) = nCpP τ f t (k + 1) := by
  funext u i j
  simp only [ups, nCpP]
  by_cases h1 : u = 40 ∧ i = t + k ∧ j = 0
  · obtain ⟨rfl, rfl, rfl⟩ := h1
    rw [if_pos ⟨rfl, rfl, rfl⟩, if_pos (by omega), show t + k - t + f = f + k by omega]
  · rw [if_neg h1]
    by_cases h2 : u = 40 ∧ j = 0 ∧ t ≤ i ∧ i < t + k
    · rw [if_pos h2, if_pos (by omega)]
    · rw [if_neg h2, if_neg (by omega)]
theorem nCopy_h (τ : St) (q t : Int) {u : Nat} (h : u ≠ 40) (i j : Int) : nCopy τ q t u i j = τ u i j := by
  unfold nCopy
  rw [ups_t _ h, ups_t _ h, nCpP_o _ _ _ _ h]
theorem nCopy_lo (τ : St) {q t i : Int} (h : i < t) (j : Int) : nCopy τ q t 40 i j = τ 40 i j := by
  unfold nCopy
  rw [ups_i _ _ _ (by omega), ups_i _ _ _ (by omega)]
  unfold nCpP
  rw [if_neg (by omega)]
theorem nCopy_in (τ : St) {q t i : Int} (h : 0 ≤ i ∧ i < 48) : nCopy τ q t 40 (t + i) 0 = τ 40 (50 * q + i) 0 := by
  unfold nCopy
  rw [ups_i _ _ _ (by omega), ups_i _ _ _ (by omega)]
  unfold nCpP
  rw [if_pos (by omega), show t + i - t + 50 * q = 50 * q + i by omega]
theorem nCopy_48 (τ : St) (q t : Int) : nCopy τ q t 40 (t + 48) 0 = q := by
  unfold nCopy
  rw [ups_i _ _ _ (by omega), ups_eq]
theorem nCopy_49 (τ : St) (q t : Int) : nCopy τ q t 40 (t + 49) 0 = 0 := by
  unfold nCopy
  rw [ups_eq]
/-- the count and the line behind, as a line that goes on leaves them -/
def nC (k c n : Int) : Int := if k = 99 then n else if k = 108 ∧ 0 < c then c - 1 else c
def nJ (k c n x : Int) : Int := if k = 103 ∨ k = 118 ∨ (k = 108 ∧ c = 0) then n else x
def nMid (τ : St) (b k n : Int) : St := ups (ups τ 41 1 0 (nC k (τ 41 1 0) n)) 40 (b + 49) 0 (nJ k (τ 41 1 0) n (τ 40 (b + 49) 0))
def nObey (τ : St) (b k n : Int) : St :=
  if k = 115 then ups (ups τ 41 3 0 n) 41 4 0 (τ 41 4 0 + 1) else if k = 119 then ups τ 41 2 0 (n - 1)
  else if k = 112 ∧ n < 3 ∧ τ 41 0 0 < 4 then ups (nCopy (nMid τ b k n) n (b + 50)) 41 0 0 (τ 41 0 0 + 1) else nMid τ b k n
def nHd (τ : St) : St := ups τ 41 5 0 (τ 41 5 0 + 1)
def nStep (τ : St) : St := ups τ 40 (nTop τ + 49) 0 (τ 40 (nTop τ + 49) 0 + 1)
abbrev nK (τ : St) : Int := τ 40 (nTop τ + 1 + 2 * τ 40 (nTop τ + 49) 0) 0
abbrev nN (τ : St) : Int := τ 40 (nTop τ + 2 + 2 * τ 40 (nTop τ + 49) 0) 0
def nDo (τ : St) : St := if nEnd τ then nCopy τ (τ 40 (nTop τ + 48) 0) (nTop τ) else nObey (nStep τ) (nTop τ) (nK τ) (nN τ)
def nO (τ : St) : Nat := if nEnd τ then 0 else if nK τ = 115 then 1 else if nK τ = 119 then 2 else 0
def nLoop : Nat → Int → St → St
  | 0, _, τ => τ
  | k + 1, n, τ => if n < 8 then (if nEnd τ ∧ 1 < τ 41 0 0 then nLoop k n (nPop τ) else if nO τ = 0 then nLoop k (n + 1) (nDo (nHd τ)) else nDo (nHd τ)) else τ
def nTurn (τ : St) : St := if 0 < τ 41 2 0 then ups τ 41 2 0 (τ 41 2 0 - 1) else nLoop 21 0 τ
def nTurns : Nat → St → St
  | 0, τ => τ
  | n + 1, τ => nTurns n (nTurn τ)
theorem nTurns_step : ∀ (n : Nat) (τ : St), nTurns (n + 1) τ = nTurn (nTurns n τ)
  | 0, τ => rfl
  | n + 1, τ => nTurns_step n (nTurn τ)
theorem nTop_hd (τ : St) : nTop (nHd τ) = nTop τ := by
  unfold nTop nHd
  rw [ups_i _ _ _ (by decide)]
theorem nHd_40 (τ : St) (i j : Int) : nHd τ 40 i j = τ 40 i j := by
  unfold nHd
  rw [ups_t _ (by decide)]
theorem nEnd_hd (τ : St) : nEnd (nHd τ) ↔ nEnd τ := by
  unfold nEnd
  rw [nTop_hd, nHd_40, nHd_40]
theorem nK_hd (τ : St) : nK (nHd τ) = nK τ := by
  unfold nK
  rw [nTop_hd, nHd_40, nHd_40]
theorem nN_hd (τ : St) : nN (nHd τ) = nN τ := by
  unfold nN
  rw [nTop_hd, nHd_40, nHd_40]
theorem nMid_h (τ : St) (b k n : Int) {i : Int} (h : i ≠ 1) : nMid τ b k n 41 i 0 = τ 41 i 0 := by
  unfold nMid
  rw [ups_t _ (by decide), ups_i _ _ _ h]
theorem nMid_40 (τ : St) (b k n : Int) {i : Int} (h : i ≠ b + 49) (j : Int) : nMid τ b k n 40 i j = τ 40 i j := by
  unfold nMid
  rw [ups_i _ _ _ h, ups_t _ (by decide)]
theorem nObey_h (τ : St) (b k n : Int) : nObey τ b k n 41 0 0 ≤ τ 41 0 0 + 1 := by
  unfold nObey
  split
  · rw [ups_i _ _ _ (by decide), ups_i _ _ _ (by decide)]; omega
  · split
    · rw [ups_i _ _ _ (by decide)]; omega
    · split
      · rw [ups_eq]; omega
      · rw [nMid_h _ _ _ _ (by decide)]; omega
theorem nDo_h (τ : St) : nDo (nHd τ) 41 0 0 ≤ τ 41 0 0 + 1 := by
  have e : nHd τ 41 0 0 = τ 41 0 0 := by unfold nHd; rw [ups_i _ _ _ (by decide)]
  unfold nDo
  split
  · rw [nCopy_h _ _ _ (by decide), e]; omega
  · have h := nObey_h (nStep (nHd τ)) (nTop (nHd τ)) (nK (nHd τ)) (nN (nHd τ))
    have e2 : nStep (nHd τ) 41 0 0 = nHd τ 41 0 0 := by unfold nStep; rw [ups_t _ (by decide)]
    omega
-- lists in the row: lines put in and cut
def nInP (τ : St) (a M m : Int) : St := fun u i j => if u = 40 ∧ j = 0 ∧ 50 * a + 2 + 2 * m < i ∧ i ≤ 50 * a + 2 + 2 * M then τ 40 (i - 2) 0 else τ u i j
def nIns (τ : St) (a M x k n : Int) : St := ups (ups (ups (nInP τ a M x) 40 (50 * a + 1 + 2 * x) 0 k) 40 (50 * a + 2 + 2 * x) 0 n) 40 (50 * a) 0 (M + 1)
theorem nInP_0 (τ : St) (a M : Int) : nInP τ a M M = τ := by
  funext u i j
  unfold nInP
  rw [if_neg (by omega)]
theorem nInP_rd (τ : St) {a M m i : Int} (h : i ≤ 50 * a + 2 + 2 * m) : nInP τ a M m 40 i 0 = τ 40 i 0 := by
  unfold nInP
  rw [if_neg (by omega)]
theorem nInP_o (τ : St) (a M m : Int) {u : Nat} (h : u ≠ 40) (i j : Int) : nInP τ a M m u i j = τ u i j := by
  unfold nInP
  rw [if_neg (by omega)]
theorem nInP_s (τ : St) {a M m : Int} (h : m ≤ M) : ups (ups (nInP τ a M m) 40 (50 * a + 1 + 2 * m) 0 (τ 40 (50 * a - 1 + 2 * m) 0)) 40 (50 * a + 2 + 2 * m) 0 (τ 40 (50 * a + 2 * m) 0) = nInP τ a M (m - 1) := by
  funext u i j
  simp only [ups, nInP]
  by_cases h1 : u = 40 ∧ i = 50 * a + 2 + 2 * m ∧ j = 0
  · obtain ⟨rfl, rfl, rfl⟩ := h1
    rw [if_pos ⟨rfl, rfl, rfl⟩, if_pos (by omega), show 50 * a + 2 + 2 * m - 2 = 50 * a + 2 * m by omega]
  · rw [if_neg h1]
    by_cases h2 : u = 40 ∧ i = 50 * a + 1 + 2 * m ∧ j = 0
    · obtain ⟨rfl, rfl, rfl⟩ := h2
      rw [if_pos ⟨rfl, rfl, rfl⟩, if_pos (by omega), show 50 * a + 1 + 2 * m - 2 = 50 * a - 1 + 2 * m by omega]
    · rw [if_neg h2]
      by_cases h3 : u = 40 ∧ j = 0 ∧ 50 * a + 2 + 2 * m < i ∧ i ≤ 50 * a + 2 + 2 * M
      · rw [if_pos h3, if_pos (by omega)]
      · rw [if_neg h3, if_neg (by omega)]
def nRmP (τ : St) (a x m : Int) : St := fun u i j => if u = 40 ∧ j = 0 ∧ 50 * a + 1 + 2 * x ≤ i ∧ i < 50 * a + 1 + 2 * m then τ 40 (i + 2) 0 else τ u i j
def nRem (τ : St) (a M x : Int) : St := ups (nRmP τ a x M) 40 (50 * a) 0 (M - 1)
theorem nRmP_0 (τ : St) (a x : Int) : nRmP τ a x x = τ := by
  funext u i j
  unfold nRmP
  rw [if_neg (by omega)]
theorem nRmP_rd (τ : St) {a x m i : Int} (h : 50 * a + 1 + 2 * m ≤ i) : nRmP τ a x m 40 i 0 = τ 40 i 0 := by
  unfold nRmP
  rw [if_neg (by omega)]
theorem nRmP_o (τ : St) (a x m : Int) {u : Nat} (h : u ≠ 40) (i j : Int) : nRmP τ a x m u i j = τ u i j := by
  unfold nRmP
  rw [if_neg (by omega)]
theorem nRmP_s (τ : St) {a x m : Int} (h : x ≤ m) : ups (ups (nRmP τ a x m) 40 (50 * a + 1 + 2 * m) 0 (τ 40 (50 * a + 3 + 2 * m) 0)) 40 (50 * a + 2 + 2 * m) 0 (τ 40 (50 * a + 4 + 2 * m) 0) = nRmP τ a x (m + 1) := by
  funext u i j
  simp only [ups, nRmP]
  by_cases h1 : u = 40 ∧ i = 50 * a + 2 + 2 * m ∧ j = 0
  · obtain ⟨rfl, rfl, rfl⟩ := h1
    rw [if_pos ⟨rfl, rfl, rfl⟩, if_pos (by omega), show 50 * a + 2 + 2 * m + 2 = 50 * a + 4 + 2 * m by omega]
  · rw [if_neg h1]
    by_cases h2 : u = 40 ∧ i = 50 * a + 1 + 2 * m ∧ j = 0
    · obtain ⟨rfl, rfl, rfl⟩ := h2
      rw [if_pos ⟨rfl, rfl, rfl⟩, if_pos (by omega), show 50 * a + 1 + 2 * m + 2 = 50 * a + 3 + 2 * m by omega]
    · rw [if_neg h2]
      by_cases h3 : u = 40 ∧ j = 0 ∧ 50 * a + 1 + 2 * x ≤ i ∧ i < 50 * a + 1 + 2 * m
      · rw [if_pos h3, if_pos (by omega)]
      · rw [if_neg h3, if_neg (by omega)]
end LMATH1
