section MATH1
theorem sw {Dg : va_G} {cnt : Nat → Int} {ad : Nat → Int → Nat} {F : St → Nat → Int → va_E} {σ σ' : St} {H : Heap} (h : WP Dg cnt ad (F σ) H) (he : σ = σ') : WP Dg cnt ad (F σ') H := he ▸ h
-- counting
def cntB (f : Int → Bool) : Nat → Int
  | 0 => 0
  | n + 1 => cntB f n + (if f (n : Int) = true then 1 else 0)
def cN (f : Int → Bool) (i : Int) : Int := cntB f i.toNat
theorem cN_0 (f : Int → Bool) : cN f 0 = 0 := rfl
theorem cN_s (f : Int → Bool) {i : Int} (h : 0 ≤ i) : cN f (i + 1) = cN f i + (if f i = true then 1 else 0) := by
  unfold cN
  rw [show (i + 1).toNat = i.toNat + 1 by omega, cntB, Int.toNat_of_nonneg h]
theorem cntB_rng (f : Int → Bool) : ∀ n : Nat, 0 ≤ cntB f n ∧ cntB f n ≤ n
  | 0 => ⟨Int.le_refl _, Int.le_refl _⟩
  | n + 1 => by
    have ih := cntB_rng f n
    rw [cntB]
    split <;> constructor <;> omega
theorem cN_rng (f : Int → Bool) {i : Int} (h : 0 ≤ i) : 0 ≤ cN f i ∧ cN f i ≤ i := by
  have := cntB_rng f i.toNat
  unfold cN
  omega
theorem cN_t (f : Int → Bool) {i : Int} (h : 0 ≤ i) (hf : f i = true) : cN f (i + 1) = cN f i + 1 := by rw [cN_s f h, if_pos hf]
theorem cN_f (f : Int → Bool) {i : Int} (h : 0 ≤ i) (hf : f i = false) : cN f (i + 1) = cN f i := by rw [cN_s f h, if_neg (by rw [hf]; decide)]; omega
-- reels: 1 kinds, 2 numbers, 3 size
def insP (σ : St) (r m : Int) : St := fun t i j => if (t = 1 ∨ t = 2) ∧ i = r ∧ m < j ∧ j ≤ σ 3 r 0 then σ t r (j - 1) else σ t i j
def fIns (σ : St) (r place k n : Int) : St := ups (ups (ups (insP σ r place) 1 r place k) 2 r place n) 3 r 0 (σ 3 r 0 + 1)
theorem insP_0 (σ : St) (r : Int) : insP σ r (σ 3 r 0) = σ := by
  funext t i j
  unfold insP
  rw [if_neg (by omega)]
theorem insP_rd (σ : St) (t : Nat) (r m : Int) {j : Int} (h : j ≤ m) : insP σ r m t r j = σ t r j := by
  unfold insP
  rw [if_neg (by omega)]
theorem insP_o (σ : St) (r m : Int) {t : Nat} (h1 : t ≠ 1) (h2 : t ≠ 2) (i j : Int) : insP σ r m t i j = σ t i j := by
  unfold insP
  rw [if_neg (by omega)]
theorem insP_s (σ : St) {r m : Int} (h : m ≤ σ 3 r 0) : ups (ups (insP σ r m) 1 r m (σ 1 r (m - 1))) 2 r m (σ 2 r (m - 1)) = insP σ r (m - 1) := by
  funext t i j
  simp only [ups, insP]
  by_cases h1 : t = 1
  · subst h1
    by_cases h2 : i = r
    · subst h2
      by_cases h3 : j = m
      · subst h3; rw [if_neg (by omega), if_pos (by omega), if_pos (by omega)]
      · by_cases h4 : m < j ∧ j ≤ σ 3 i 0
        · rw [if_neg (by omega), if_neg (by omega), if_pos (by omega), if_pos (by omega)]
        · rw [if_neg (by omega), if_neg (by omega), if_neg (by omega), if_neg (by omega)]
    · rw [if_neg (by omega), if_neg (by omega), if_neg (by omega), if_neg (by omega)]
  · by_cases h1b : t = 2
    · subst h1b
      by_cases h2 : i = r
      · subst h2
        by_cases h3 : j = m
        · subst h3; rw [if_pos (by omega), if_pos (by omega)]
        · by_cases h4 : m < j ∧ j ≤ σ 3 i 0
          · rw [if_neg (by omega), if_neg (by omega), if_pos (by omega), if_pos (by omega)]
          · rw [if_neg (by omega), if_neg (by omega), if_neg (by omega), if_neg (by omega)]
      · rw [if_neg (by omega), if_neg (by omega), if_neg (by omega), if_neg (by omega)]
    · rw [if_neg (by omega), if_neg (by omega), if_neg (by omega), if_neg (by omega)]
def remP (σ : St) (r place m : Int) : St := fun t i j => if (t = 1 ∨ t = 2) ∧ i = r ∧ place ≤ j ∧ j < m then σ t r (j + 1) else σ t i j
def fRem (σ : St) (r place : Int) : St := remP (ups σ 3 r 0 (σ 3 r 0 - 1)) r place (σ 3 r 0 - 1)
theorem remP_0 (σ : St) (r place : Int) : remP σ r place place = σ := by
  funext t i j
  unfold remP
  rw [if_neg (by omega)]
theorem remP_rd (σ : St) (t : Nat) (r place : Int) {m j : Int} (h : m ≤ j) : remP σ r place m t r j = σ t r j := by
  unfold remP
  rw [if_neg (by omega)]
theorem remP_o (σ : St) (r place m : Int) {t : Nat} (h1 : t ≠ 1) (h2 : t ≠ 2) (i j : Int) : remP σ r place m t i j = σ t i j := by
  unfold remP
  rw [if_neg (by omega)]
theorem remP_s (σ : St) {r place m : Int} (h : place ≤ m) : ups (ups (remP σ r place m) 1 r m (σ 1 r (m + 1))) 2 r m (σ 2 r (m + 1)) = remP σ r place (m + 1) := by
  funext t i j
  simp only [ups, remP]
  by_cases h1 : t = 1
  · subst h1
    by_cases h2 : i = r
    · subst h2
      by_cases h3 : j = m
      · subst h3; rw [if_neg (by omega), if_pos (by omega), if_pos (by omega)]
      · by_cases h4 : place ≤ j ∧ j < m
        · rw [if_neg (by omega), if_neg (by omega), if_pos (by omega), if_pos (by omega)]
        · rw [if_neg (by omega), if_neg (by omega), if_neg (by omega), if_neg (by omega)]
    · rw [if_neg (by omega), if_neg (by omega), if_neg (by omega), if_neg (by omega)]
  · by_cases h1b : t = 2
    · subst h1b
      by_cases h2 : i = r
      · subst h2
        by_cases h3 : j = m
        · subst h3; rw [if_pos (by omega), if_pos (by omega)]
        · by_cases h4 : place ≤ j ∧ j < m
          · rw [if_neg (by omega), if_neg (by omega), if_pos (by omega), if_pos (by omega)]
          · rw [if_neg (by omega), if_neg (by omega), if_neg (by omega), if_neg (by omega)]
      · rw [if_neg (by omega), if_neg (by omega), if_neg (by omega), if_neg (by omega)]
    · rw [if_neg (by omega), if_neg (by omega), if_neg (by omega), if_neg (by omega)]
def cpP (σ : St) (r q m : Int) : St := fun t i j => if (t = 1 ∨ t = 2) ∧ i = r ∧ 0 ≤ j ∧ j < m then σ t q j else σ t i j
def fCopy (σ : St) (r q : Int) : St := cpP (ups σ 3 r 0 (σ 3 q 0)) r q (σ 3 q 0)
theorem cpP_0 (σ : St) (r q : Int) : cpP σ r q 0 = σ := by
  funext t i j
  unfold cpP
  rw [if_neg (by omega)]
theorem cpP_rd (σ : St) (t : Nat) {r q : Int} (m j : Int) (h : q ≠ r) : cpP σ r q m t q j = σ t q j := by
  unfold cpP
  rw [if_neg (by omega)]
theorem cpP_o (σ : St) (r q m : Int) {t : Nat} (h1 : t ≠ 1) (h2 : t ≠ 2) (i j : Int) : cpP σ r q m t i j = σ t i j := by
  unfold cpP
  rw [if_neg (by omega)]
theorem cpP_s (σ : St) {r q m : Int} (h : 0 ≤ m) : ups (ups (cpP σ r q m) 1 r m (σ 1 q m)) 2 r m (σ 2 q m) = cpP σ r q (m + 1) := by
  funext t i j
  simp only [ups, cpP]
  by_cases h1 : t = 1
  · subst h1
    by_cases h2 : i = r
    · subst h2
      by_cases h3 : j = m
      · subst h3; rw [if_neg (by omega), if_pos (by omega), if_pos (by omega)]
      · by_cases h4 : 0 ≤ j ∧ j < m
        · rw [if_neg (by omega), if_neg (by omega), if_pos (by omega), if_pos (by omega)]
        · rw [if_neg (by omega), if_neg (by omega), if_neg (by omega), if_neg (by omega)]
    · rw [if_neg (by omega), if_neg (by omega), if_neg (by omega), if_neg (by omega)]
  · by_cases h1b : t = 2
    · subst h1b
      by_cases h2 : i = r
      · subst h2
        by_cases h3 : j = m
        · subst h3; rw [if_pos (by omega), if_pos (by omega)]
        · by_cases h4 : 0 ≤ j ∧ j < m
          · rw [if_neg (by omega), if_neg (by omega), if_pos (by omega), if_pos (by omega)]
          · rw [if_neg (by omega), if_neg (by omega), if_neg (by omega), if_neg (by omega)]
      · rw [if_neg (by omega), if_neg (by omega), if_neg (by omega), if_neg (by omega)]
    · rw [if_neg (by omega), if_neg (by omega), if_neg (by omega), if_neg (by omega)]
-- rows of players: 16 members, 17 size
def shR (σ : St) (w m : Int) : St := fun t i j => if t = 16 ∧ i = w ∧ m < j ∧ j ≤ σ 17 w 0 then σ 16 w (j - 1) else σ t i j
def aFirst (σ : St) (w p : Int) : St := ups (ups (shR σ w 0) 16 w 0 p) 17 w 0 (σ 17 w 0 + 1)
def aLast (σ : St) (w p : Int) : St := ups (ups σ 16 w (σ 17 w 0) p) 17 w 0 (σ 17 w 0 + 1)
theorem shR_0 (σ : St) (w : Int) : shR σ w (σ 17 w 0) = σ := by
  funext t i j
  unfold shR
  rw [if_neg (by omega)]
theorem shR_rd (σ : St) (w m : Int) {j : Int} (h : j ≤ m) : shR σ w m 16 w j = σ 16 w j := by
  unfold shR
  rw [if_neg (by omega)]
theorem shR_o (σ : St) (w m : Int) {t : Nat} (h1 : t ≠ 16) (i j : Int) : shR σ w m t i j = σ t i j := by
  unfold shR
  rw [if_neg (by omega)]
theorem shR_s (σ : St) {w m : Int} (h : m ≤ σ 17 w 0) : ups (shR σ w m) 16 w m (σ 16 w (m - 1)) = shR σ w (m - 1) := by
  funext t i j
  simp only [ups, shR]
  by_cases h1 : t = 16
  · subst h1
    by_cases h2 : i = w
    · subst h2
      by_cases h3 : j = m
      · subst h3; rw [if_pos (by omega), if_pos (by omega)]
      · by_cases h4 : m < j ∧ j ≤ σ 17 i 0
        · rw [if_neg (by omega), if_pos (by omega), if_pos (by omega)]
        · rw [if_neg (by omega), if_neg (by omega), if_neg (by omega)]
    · rw [if_neg (by omega), if_neg (by omega), if_neg (by omega)]
  · rw [if_neg (by omega), if_neg (by omega), if_neg (by omega)]
def shL (σ : St) (w j0 m : Int) : St := fun t i j => if t = 16 ∧ i = w ∧ j0 ≤ j ∧ j < m then σ 16 w (j + 1) else σ t i j
def rAt (σ : St) (w j0 : Int) : St := ups (shL σ w j0 (σ 17 w 0 - 1)) 17 w 0 (σ 17 w 0 - 1)
theorem shL_0 (σ : St) (w : Int) {j0 m : Int} (h : m ≤ j0) : shL σ w j0 m = σ := by
  funext t i j
  unfold shL
  rw [if_neg (by omega)]
theorem shL_rd (σ : St) (w j0 : Int) {m j : Int} (h : m ≤ j ∨ j < j0) : shL σ w j0 m 16 w j = σ 16 w j := by
  unfold shL
  rw [if_neg (by omega)]
theorem shL_o (σ : St) (w j0 m : Int) {t : Nat} (h1 : t ≠ 16) (i j : Int) : shL σ w j0 m t i j = σ t i j := by
  unfold shL
  rw [if_neg (by omega)]
theorem shL_s (σ : St) {w j0 m : Int} (h : j0 ≤ m) : ups (shL σ w j0 m) 16 w m (σ 16 w (m + 1)) = shL σ w j0 (m + 1) := by
  funext t i j
  simp only [ups, shL]
  by_cases h1 : t = 16
  · subst h1
    by_cases h2 : i = w
    · subst h2
      by_cases h3 : j = m
      · subst h3; rw [if_pos (by omega), if_pos (by omega)]
      · by_cases h4 : j0 ≤ j ∧ j < m
        · rw [if_neg (by omega), if_pos (by omega), if_pos (by omega)]
        · rw [if_neg (by omega), if_neg (by omega), if_neg (by omega)]
    · rw [if_neg (by omega), if_neg (by omega), if_neg (by omega)]
  · rw [if_neg (by omega), if_neg (by omega), if_neg (by omega)]
theorem ups_id (σ : St) (t : Nat) (i j : Int) {v : Int} (h : v = σ t i j) : ups σ t i j v = σ := by
  subst h
  funext t' i' j'
  unfold ups
  split
  · next h => obtain ⟨rfl, rfl, rfl⟩ := h; rfl
  · rfl
/-- writes of two numbers that lie apart -/
theorem ups_comm (σ : St) {t t' : Nat} (h : t ≠ t') (i j v i' j' v' : Int) : ups (ups σ t i j v) t' i' j' v' = ups (ups σ t' i' j' v') t i j v := by
  funext a b c
  unfold ups
  by_cases h1 : a = t ∧ b = i ∧ c = j
  · rw [if_pos h1, if_neg (by omega), if_pos h1]
  · by_cases h2 : a = t' ∧ b = i' ∧ c = j'
    · rw [if_pos h2, if_neg h1, if_pos h2]
    · rw [if_neg h2, if_neg h1, if_neg h1, if_neg h2]
theorem ups_ups (σ : St) (t : Nat) (i j v v' : Int) : ups (ups σ t i j v) t i j v' = ups σ t i j v' := by
  funext a b c
  unfold ups
  split <;> rfl
end MATH1
