section MATH3
-- members of a row
def mem (σ : St) (w p : Int) : Prop := ∃ j : Int, 0 ≤ j ∧ j < σ 17 w 0 ∧ σ 16 w j = p
/-- rows as they should be: sizes, members, each once -/
def IvW (σ : St) : Prop := ∀ w : Int, 0 ≤ w → w < 12 → (0 ≤ σ 17 w 0 ∧ σ 17 w 0 ≤ 6) ∧ (∀ j : Int, 0 ≤ j → j < 6 → 0 ≤ σ 16 w j ∧ σ 16 w j ≤ 5) ∧ ∀ j k : Int, 0 ≤ j → j < σ 17 w 0 → 0 ≤ k → k < σ 17 w 0 → σ 16 w j = σ 16 w k → j = k
-- values of the changed rows
theorem aLast_sz (σ : St) (w p : Int) : aLast σ w p 17 w 0 = σ 17 w 0 + 1 := by unfold aLast; rw [ups_eq]
theorem aLast_szo (σ : St) {w w' : Int} (h : w' ≠ w) (p : Int) : aLast σ w p 17 w' 0 = σ 17 w' 0 := by unfold aLast; rw [ups_i _ _ _ h, ups_t _ (by decide)]
theorem aLast_new (σ : St) (w p : Int) : aLast σ w p 16 w (σ 17 w 0) = p := by unfold aLast; rw [ups_t _ (by decide), ups_eq]
theorem aLast_old (σ : St) (w p : Int) {j : Int} (h : j ≠ σ 17 w 0) : aLast σ w p 16 w j = σ 16 w j := by unfold aLast; rw [ups_t _ (by decide), ups_j _ _ _ h]
theorem aLast_row (σ : St) {w w' : Int} (h : w' ≠ w) (p j : Int) : aLast σ w p 16 w' j = σ 16 w' j := by unfold aLast; rw [ups_t _ (by decide), ups_i _ _ _ h]
theorem aLast_o (σ : St) (w p : Int) {t : Nat} (h1 : t ≠ 16) (h2 : t ≠ 17) (i j : Int) : aLast σ w p t i j = σ t i j := by unfold aLast; rw [ups_t _ h2, ups_t _ h1]
theorem aFirst_sz (σ : St) (w p : Int) : aFirst σ w p 17 w 0 = σ 17 w 0 + 1 := by unfold aFirst; rw [ups_eq]
theorem aFirst_szo (σ : St) {w w' : Int} (h : w' ≠ w) (p : Int) : aFirst σ w p 17 w' 0 = σ 17 w' 0 := by unfold aFirst; rw [ups_i _ _ _ h, ups_t _ (by decide), shR_o _ _ _ (by decide)]
theorem aFirst_new (σ : St) (w p : Int) : aFirst σ w p 16 w 0 = p := by unfold aFirst; rw [ups_t _ (by decide), ups_eq]
theorem aFirst_old (σ : St) (w p : Int) {j : Int} (h : 0 < j) (h2 : j ≤ σ 17 w 0) : aFirst σ w p 16 w j = σ 16 w (j - 1) := by
  unfold aFirst
  rw [ups_t _ (by decide), ups_j _ _ _ (by omega)]
  unfold shR
  rw [if_pos (by omega)]
theorem aFirst_far (σ : St) (w p : Int) {j : Int} (h : 0 < j) (h2 : σ 17 w 0 < j) : aFirst σ w p 16 w j = σ 16 w j := by
  unfold aFirst
  rw [ups_t _ (by decide), ups_j _ _ _ (by omega)]
  unfold shR
  rw [if_neg (by omega)]
theorem aFirst_row (σ : St) {w w' : Int} (h : w' ≠ w) (p j : Int) : aFirst σ w p 16 w' j = σ 16 w' j := by
  unfold aFirst
  rw [ups_t _ (by decide), ups_i _ _ _ h]
  unfold shR
  rw [if_neg (by omega)]
theorem aFirst_o (σ : St) (w p : Int) {t : Nat} (h1 : t ≠ 16) (h2 : t ≠ 17) (i j : Int) : aFirst σ w p t i j = σ t i j := by unfold aFirst; rw [ups_t _ h2, ups_t _ h1, shR_o _ _ _ h1]
theorem rAt_sz (σ : St) (w j0 : Int) : rAt σ w j0 17 w 0 = σ 17 w 0 - 1 := by unfold rAt; rw [ups_eq]
theorem rAt_szo (σ : St) {w w' : Int} (h : w' ≠ w) (j0 : Int) : rAt σ w j0 17 w' 0 = σ 17 w' 0 := by unfold rAt; rw [ups_i _ _ _ h, shL_o _ _ _ _ (by decide)]
theorem rAt_lo (σ : St) (w : Int) {j0 j : Int} (h : j < j0) : rAt σ w j0 16 w j = σ 16 w j := by unfold rAt; rw [ups_t _ (by decide), shL_rd _ _ _ (Or.inr h)]
theorem rAt_hi (σ : St) (w : Int) {j0 j : Int} (h : j0 ≤ j) (h2 : j < σ 17 w 0 - 1) : rAt σ w j0 16 w j = σ 16 w (j + 1) := by
  unfold rAt
  rw [ups_t _ (by decide)]
  unfold shL
  rw [if_pos (by omega)]
theorem rAt_far (σ : St) (w : Int) {j0 j : Int} (h : σ 17 w 0 - 1 ≤ j) : rAt σ w j0 16 w j = σ 16 w j := by unfold rAt; rw [ups_t _ (by decide), shL_rd _ _ _ (Or.inl h)]
theorem rAt_row (σ : St) {w w' : Int} (h : w' ≠ w) (j0 j : Int) : rAt σ w j0 16 w' j = σ 16 w' j := by
  unfold rAt
  rw [ups_t _ (by decide)]
  unfold shL
  rw [if_neg (by omega)]
theorem rAt_o (σ : St) (w j0 : Int) {t : Nat} (h1 : t ≠ 16) (h2 : t ≠ 17) (i j : Int) : rAt σ w j0 t i j = σ t i j := by unfold rAt; rw [ups_t _ h2, shL_o _ _ _ _ h1]
-- who is in them
theorem mem_aLast {σ : St} {w p : Int} (h0 : 0 ≤ σ 17 w 0) (w' q : Int) : mem (aLast σ w p) w' q ↔ mem σ w' q ∨ (w' = w ∧ q = p) := by
  by_cases hw : w' = w
  · subst hw
    constructor
    · rintro ⟨j, h1, h2, h3⟩
      rw [aLast_sz] at h2
      by_cases hj : j = σ 17 w' 0
      · subst hj; rw [aLast_new] at h3; exact Or.inr ⟨rfl, h3.symm⟩
      · rw [aLast_old _ _ _ hj] at h3; exact Or.inl ⟨j, h1, by omega, h3⟩
    · rintro (⟨j, h1, h2, h3⟩ | ⟨-, rfl⟩)
      · exact ⟨j, h1, by rw [aLast_sz]; omega, by rw [aLast_old _ _ _ (by omega)]; exact h3⟩
      · exact ⟨σ 17 w' 0, h0, by rw [aLast_sz]; omega, aLast_new _ _ _⟩
  · constructor
    · rintro ⟨j, h1, h2, h3⟩
      rw [aLast_szo _ hw] at h2; rw [aLast_row _ hw] at h3
      exact Or.inl ⟨j, h1, h2, h3⟩
    · rintro (⟨j, h1, h2, h3⟩ | ⟨h, -⟩)
      · exact ⟨j, h1, by rw [aLast_szo _ hw]; exact h2, by rw [aLast_row _ hw]; exact h3⟩
      · exact absurd h hw
theorem mem_aFirst {σ : St} {w p : Int} (h0 : 0 ≤ σ 17 w 0) (w' q : Int) : mem (aFirst σ w p) w' q ↔ mem σ w' q ∨ (w' = w ∧ q = p) := by
  by_cases hw : w' = w
  · subst hw
    constructor
    · rintro ⟨j, h1, h2, h3⟩
      rw [aFirst_sz] at h2
      by_cases hj : j = 0
      · subst hj; rw [aFirst_new] at h3; exact Or.inr ⟨rfl, h3.symm⟩
      · rw [aFirst_old _ _ _ (by omega) (by omega)] at h3; exact Or.inl ⟨j - 1, by omega, by omega, h3⟩
    · rintro (⟨j, h1, h2, h3⟩ | ⟨-, rfl⟩)
      · exact ⟨j + 1, by omega, by rw [aFirst_sz]; omega, by rw [aFirst_old _ _ _ (by omega) (by omega), show j + 1 - 1 = j by omega]; exact h3⟩
      · exact ⟨0, Int.le_refl _, by rw [aFirst_sz]; omega, aFirst_new _ _ _⟩
  · constructor
    · rintro ⟨j, h1, h2, h3⟩
      rw [aFirst_szo _ hw] at h2; rw [aFirst_row _ hw] at h3
      exact Or.inl ⟨j, h1, h2, h3⟩
    · rintro (⟨j, h1, h2, h3⟩ | ⟨h, -⟩)
      · exact ⟨j, h1, by rw [aFirst_szo _ hw]; exact h2, by rw [aFirst_row _ hw]; exact h3⟩
      · exact absurd h hw
theorem mem_rAt {σ : St} {w j0 : Int} (hj : 0 ≤ j0 ∧ j0 < σ 17 w 0) (hd : ∀ j k : Int, 0 ≤ j → j < σ 17 w 0 → 0 ≤ k → k < σ 17 w 0 → σ 16 w j = σ 16 w k → j = k) (w' q : Int) : mem (rAt σ w j0) w' q ↔ mem σ w' q ∧ ¬ (w' = w ∧ q = σ 16 w j0) := by
  by_cases hw : w' = w
  · subst hw
    constructor
    · rintro ⟨j, h1, h2, h3⟩
      rw [rAt_sz] at h2
      by_cases hc : j < j0
      · rw [rAt_lo _ _ hc] at h3
        exact ⟨⟨j, h1, by omega, h3⟩, fun z => by have := hd j j0 h1 (by omega) hj.1 hj.2 (h3.trans z.2); omega⟩
      · rw [rAt_hi _ _ (by omega) h2] at h3
        exact ⟨⟨j + 1, by omega, by omega, h3⟩, fun z => by have := hd (j + 1) j0 (by omega) (by omega) hj.1 hj.2 (h3.trans z.2); omega⟩
    · rintro ⟨⟨j, h1, h2, h3⟩, hn⟩
      by_cases hc : j < j0
      · exact ⟨j, h1, by rw [rAt_sz]; omega, by rw [rAt_lo _ _ hc]; exact h3⟩
      · by_cases he : j = j0
        · subst he; exact absurd ⟨rfl, h3.symm⟩ hn
        · exact ⟨j - 1, by omega, by rw [rAt_sz]; omega, by rw [rAt_hi _ _ (by omega) (by omega), show j - 1 + 1 = j by omega]; exact h3⟩
  · constructor
    · rintro ⟨j, h1, h2, h3⟩
      rw [rAt_szo _ hw] at h2; rw [rAt_row _ hw] at h3
      exact ⟨⟨j, h1, h2, h3⟩, fun z => hw z.1⟩
    · rintro ⟨⟨j, h1, h2, h3⟩, -⟩
      exact ⟨j, h1, by rw [rAt_szo _ hw]; exact h2, by rw [rAt_row _ hw]; exact h3⟩
-- rows stay as they should be
theorem IvW_aLast {σ : St} (h : IvW σ) {w p : Int} (hp : 0 ≤ p ∧ p ≤ 5) (hs : σ 17 w 0 < 6) (hn : ¬ mem σ w p) : IvW (aLast σ w p) := by
  intro w' h0 h1
  obtain ⟨a1, a2, a3⟩ := h w' h0 h1
  by_cases hw : w' = w
  · subst hw
    rw [aLast_sz]
    refine ⟨by omega, fun j b1 b2 => ?_, fun j k b1 b2 b3 b4 he => ?_⟩
    · by_cases hj : j = σ 17 w' 0
      · subst hj; rw [aLast_new]; exact hp
      · rw [aLast_old _ _ _ hj]; exact a2 j b1 b2
    · by_cases hj : j = σ 17 w' 0
      · by_cases hk : k = σ 17 w' 0
        · omega
        · rw [hj, aLast_new, aLast_old _ _ _ hk] at he
          exact absurd ⟨k, b3, by omega, he.symm⟩ hn
      · by_cases hk : k = σ 17 w' 0
        · rw [hk, aLast_new, aLast_old _ _ _ hj] at he
          exact absurd ⟨j, b1, by omega, he⟩ hn
        · rw [aLast_old _ _ _ hj, aLast_old _ _ _ hk] at he
          exact a3 j k b1 (by omega) b3 (by omega) he
  · rw [aLast_szo _ hw]
    refine ⟨a1, fun j b1 b2 => by rw [aLast_row _ hw]; exact a2 j b1 b2, fun j k b1 b2 b3 b4 he => ?_⟩
    rw [aLast_row _ hw, aLast_row _ hw] at he
    exact a3 j k b1 b2 b3 b4 he
theorem IvW_aFirst {σ : St} (h : IvW σ) {w p : Int} (hp : 0 ≤ p ∧ p ≤ 5) (hs : σ 17 w 0 < 6) (hn : ¬ mem σ w p) : IvW (aFirst σ w p) := by
  intro w' h0 h1
  obtain ⟨a1, a2, a3⟩ := h w' h0 h1
  by_cases hw : w' = w
  · subst hw
    rw [aFirst_sz]
    refine ⟨by omega, fun j b1 b2 => ?_, fun j k b1 b2 b3 b4 he => ?_⟩
    · by_cases hj : j = 0
      · subst hj; rw [aFirst_new]; exact hp
      · by_cases hj2 : j ≤ σ 17 w' 0
        · rw [aFirst_old _ _ _ (by omega) hj2]; exact a2 (j - 1) (by omega) (by omega)
        · rw [aFirst_far _ _ _ (by omega) (by omega)]; exact a2 j b1 b2
    · by_cases hj : j = 0
      · by_cases hk : k = 0
        · omega
        · rw [hj, aFirst_new, aFirst_old _ _ _ (by omega) (by omega)] at he
          exact absurd ⟨k - 1, by omega, by omega, he.symm⟩ hn
      · by_cases hk : k = 0
        · rw [hk, aFirst_new, aFirst_old _ _ _ (by omega) (by omega)] at he
          exact absurd ⟨j - 1, by omega, by omega, he⟩ hn
        · rw [aFirst_old _ _ _ (by omega) (by omega), aFirst_old _ _ _ (by omega) (by omega)] at he
          have := a3 (j - 1) (k - 1) (by omega) (by omega) (by omega) (by omega) he
          omega
  · rw [aFirst_szo _ hw]
    refine ⟨a1, fun j b1 b2 => by rw [aFirst_row _ hw]; exact a2 j b1 b2, fun j k b1 b2 b3 b4 he => ?_⟩
    rw [aFirst_row _ hw, aFirst_row _ hw] at he
    exact a3 j k b1 b2 b3 b4 he
theorem IvW_rAt {σ : St} (h : IvW σ) {w j0 : Int} (hj : 0 ≤ j0 ∧ j0 < σ 17 w 0) : IvW (rAt σ w j0) := by
  intro w' h0 h1
  obtain ⟨a1, a2, a3⟩ := h w' h0 h1
  by_cases hw : w' = w
  · subst hw
    rw [rAt_sz]
    have val : ∀ j : Int, 0 ≤ j → j < σ 17 w' 0 - 1 → ∃ k : Int, rAt σ w' j0 16 w' j = σ 16 w' k ∧ 0 ≤ k ∧ k < σ 17 w' 0 ∧ ((j < j0 ∧ k = j) ∨ (j0 ≤ j ∧ k = j + 1)) := fun j b1 b2 => by
      by_cases hc : j < j0
      · exact ⟨j, rAt_lo _ _ hc, b1, by omega, Or.inl ⟨hc, rfl⟩⟩
      · exact ⟨j + 1, rAt_hi _ _ (by omega) b2, by omega, by omega, Or.inr ⟨by omega, rfl⟩⟩
    refine ⟨by omega, fun j b1 b2 => ?_, fun j k b1 b2 b3 b4 he => ?_⟩
    · by_cases hc : j < σ 17 w' 0 - 1
      · obtain ⟨k, e, c1, c2, -⟩ := val j b1 hc
        rw [e]; exact a2 k c1 (by omega)
      · rw [rAt_far _ _ (by omega)]; exact a2 j b1 b2
    · obtain ⟨x, e1, c1, c2, c3⟩ := val j b1 b2
      obtain ⟨y, e2, d1, d2, d3⟩ := val k b3 b4
      rw [e1, e2] at he
      have := a3 x y c1 c2 d1 d2 he
      omega
  · rw [rAt_szo _ hw]
    refine ⟨a1, fun j b1 b2 => by rw [rAt_row _ hw]; exact a2 j b1 b2, fun j k b1 b2 b3 b4 he => ?_⟩
    rw [rAt_row _ hw, rAt_row _ hw] at he
    exact a3 j k b1 b2 b3 b4 he
/-- who is wanting in a row leaves room for one -/
theorem holes : ∀ (m : Nat) (n : Int) (f : Int → Int), 0 ≤ n → (∀ j, 0 ≤ j → j < n → 0 ≤ f j ∧ f j < m) → (∀ j k, 0 ≤ j → j < n → 0 ≤ k → k < n → f j = f k → j = k) → n ≤ m
  | 0, n, f, h0, h1, _ => by
    rcases Int.lt_or_le 0 n with h | h
    · have := h1 0 (Int.le_refl _) h
      omega
    · omega
  | m + 1, n, f, h0, h1, h2 => by
    by_cases hm : ∃ i, 0 ≤ i ∧ i < n ∧ f i = m
    · obtain ⟨i, a1, a2, a3⟩ := hm
      have := holes m (n - 1) (fun j => if j < i then f j else f (j + 1)) (by omega) (fun j b1 b2 => ?_) (fun j k b1 b2 b3 b4 he => ?_)
      · omega
      · show 0 ≤ (if j < i then f j else f (j + 1)) ∧ (if j < i then f j else f (j + 1)) < m
        split
        · have q := h1 j b1 (by omega)
          have : f j ≠ m := fun z => by have := h2 j i b1 (by omega) a1 a2 (z.trans a3.symm); omega
          omega
        · have q := h1 (j + 1) (by omega) (by omega)
          have : f (j + 1) ≠ m := fun z => by have := h2 (j + 1) i (by omega) (by omega) a1 a2 (z.trans a3.symm); omega
          omega
      · have he : (if j < i then f j else f (j + 1)) = (if k < i then f k else f (k + 1)) := he
        split at he <;> split at he
        · exact h2 j k b1 (by omega) b3 (by omega) he
        · have := h2 j (k + 1) b1 (by omega) (by omega) (by omega) he; omega
        · have := h2 (j + 1) k (by omega) (by omega) b3 (by omega) he; omega
        · have := h2 (j + 1) (k + 1) (by omega) (by omega) (by omega) (by omega) he; omega
    · have := holes m n f h0 (fun j b1 b2 => by
        have q := h1 j b1 b2
        have : f j ≠ m := fun z => hm ⟨j, b1, b2, z⟩
        omega) h2
      omega
theorem room {σ : St} (h : IvW σ) {w p : Int} (hw : 0 ≤ w ∧ w < 12) (hp : 0 ≤ p ∧ p ≤ 5) (hn : ¬ mem σ w p) : σ 17 w 0 < 6 := by
  obtain ⟨a1, a2, a3⟩ := h w hw.1 hw.2
  have := holes 5 (σ 17 w 0) (fun j => if σ 16 w j < p then σ 16 w j else σ 16 w j - 1) a1.1 (fun j b1 b2 => ?_) (fun j k b1 b2 b3 b4 he => ?_)
  · omega
  · have q := a2 j b1 (by omega)
    have : σ 16 w j ≠ p := fun z => hn ⟨j, b1, b2, z⟩
    show 0 ≤ (if σ 16 w j < p then σ 16 w j else σ 16 w j - 1) ∧ (if σ 16 w j < p then σ 16 w j else σ 16 w j - 1) < 5
    split <;> omega
  · have e1 : σ 16 w j ≠ p := fun z => hn ⟨j, b1, b2, z⟩
    have e2 : σ 16 w k ≠ p := fun z => hn ⟨k, b3, b4, z⟩
    have he : (if σ 16 w j < p then σ 16 w j else σ 16 w j - 1) = (if σ 16 w k < p then σ 16 w k else σ 16 w k - 1) := he
    exact a3 j k b1 b2 b3 b4 (by split at he <;> split at he <;> omega)
-- the place of one in a row
def idxN (f : Int → Int) (p : Int) : Nat → Int
  | 0 => 0
  | n + 1 => if idxN f p n < n then idxN f p n else if f n = p then n else n + 1
def idx (σ : St) (w p : Int) : Int := idxN (σ 16 w) p (σ 17 w 0).toNat
theorem idxN_spec (f : Int → Int) (p : Int) : ∀ n : Nat, 0 ≤ idxN f p n ∧ idxN f p n ≤ n ∧ (idxN f p n < n → f (idxN f p n) = p) ∧ ∀ j : Int, 0 ≤ j → j < idxN f p n → f j ≠ p
  | 0 => ⟨Int.le_refl _, Int.le_refl _, fun h => absurd h (by show ¬ ((0 : Int) < ((0 : Nat) : Int)); omega), fun j h1 h2 => by have h2 : j < 0 := h2; omega⟩
  | n + 1 => by
    obtain ⟨a1, a2, a3, a4⟩ := idxN_spec f p n
    rw [idxN]
    by_cases h : idxN f p n < n
    · rw [if_pos h]
      exact ⟨a1, by omega, fun _ => a3 h, a4⟩
    · rw [if_neg h]
      by_cases h2 : f n = p
      · rw [if_pos h2]
        exact ⟨by omega, by omega, fun _ => h2, fun j b1 b2 => a4 j b1 (by omega)⟩
      · rw [if_neg h2]
        refine ⟨by omega, by omega, fun z => absurd z (by omega), fun j b1 b2 => ?_⟩
        by_cases hj : j = n
        · subst hj; exact h2
        · exact a4 j b1 (by omega)
theorem idx_spec {σ : St} {w p : Int} (h : mem σ w p) : 0 ≤ idx σ w p ∧ idx σ w p < σ 17 w 0 ∧ σ 16 w (idx σ w p) = p ∧ ∀ j : Int, 0 ≤ j → j < idx σ w p → σ 16 w j ≠ p := by
  obtain ⟨a1, a2, a3, a4⟩ := idxN_spec (σ 16 w) p (σ 17 w 0).toNat
  obtain ⟨j, b1, b2, b3⟩ := h
  have hlt : idxN (σ 16 w) p (σ 17 w 0).toNat < ((σ 17 w 0).toNat : Nat) := by
    rcases Int.lt_or_le (idxN (σ 16 w) p (σ 17 w 0).toNat) ((σ 17 w 0).toNat : Nat) with q | q
    · exact q
    · exact absurd b3 (a4 j b1 (by omega))
  exact ⟨a1, by unfold idx; omega, a3 hlt, a4⟩
end MATH3
