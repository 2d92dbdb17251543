section MATH7
theorem nearN_least (σ : St) (k : Int) : ∀ n : Nat, (nearN σ k n = -1 ∧ ∀ y : Int, 0 ≤ y → y < n → σ 13 y 0 ≠ 0) ∨ (0 ≤ nearN σ k n ∧ nearN σ k n < n ∧ σ 13 (nearN σ k n) 0 = 0 ∧ ∀ y : Int, 0 ≤ y → y < n → σ 13 y 0 = 0 → apart (nearN σ k n) k < apart y k ∨ (apart (nearN σ k n) k = apart y k ∧ nearN σ k n ≤ y))
  | 0 => Or.inl ⟨rfl, fun y a b => by omega⟩
  | n + 1 => by
    rw [nearN]
    split
    · next z =>
      refine Or.inr ⟨by omega, by omega, z.1, fun y a b hy => ?_⟩
      by_cases hn : y = n
      · subst hn; exact Or.inr ⟨rfl, Int.le_refl _⟩
      · rcases nearN_least σ k n with w | w
        · exact absurd hy (w.2 y a (by omega))
        · have := w.2.2.2 y a (by omega) hy
          exact Or.inl (by omega)
    · next z =>
      rcases nearN_least σ k n with w | w
      · refine Or.inl ⟨w.1, fun y a b => ?_⟩
        by_cases hn : y = n
        · subst hn; intro hy; exact z ⟨hy, by omega⟩
        · exact w.2 y a (by omega)
      · refine Or.inr ⟨w.1, by omega, w.2.2.1, fun y a b hy => ?_⟩
        by_cases hn : y = n
        · subst hn
          have : ¬ (nearN σ k n < 0 ∨ apart n k < apart (nearN σ k n) k) := fun t => z ⟨hy, t⟩
          omega
        · exact w.2.2.2 y a (by omega) hy
theorem near_hit {σ : St} {k x : Int} (hx : 0 ≤ x ∧ x < σ 27 0 0) (h0 : σ 13 x 0 = 0) (hl : ∀ y : Int, 0 ≤ y → y < σ 27 0 0 → σ 13 y 0 = 0 → apart x k < apart y k ∨ (apart x k = apart y k ∧ x ≤ y)) : near σ k = x := by
  unfold near
  rcases nearN_least σ k (σ 27 0 0).toNat with w | w
  · exact absurd h0 (w.2 x hx.1 (by omega))
  · have a1 := w.2.2.2 x hx.1 (by omega) h0
    have a2 := hl _ w.1 (by omega) w.2.2.1
    omega
theorem near_none {σ : St} {k : Int} (hl : ∀ y : Int, 0 ≤ y → y < σ 27 0 0 → σ 13 y 0 ≠ 0) : near σ k = -1 := by
  unfold near
  rcases nearN_least σ k (σ 27 0 0).toNat with w | w
  · exact w.1
  · exact absurd w.2.2.1 (hl _ w.1 (by omega))
theorem near_L {σ : St} {k d : Int} (hd : 0 ≤ d) (hl : ∀ y : Int, 0 ≤ y → y < σ 27 0 0 → apart y k < d → σ 13 y 0 ≠ 0) (h : 0 ≤ k - d ∧ k - d < σ 27 0 0 ∧ σ 13 (k - d) 0 = 0) : near σ k = k - d := by
  refine near_hit ⟨h.1, h.2.1⟩ h.2.2 (fun y a b c => ?_)
  have h1 : ¬ apart y k < d := fun z => hl y a b z c
  unfold apart at h1 ⊢
  split at h1 <;> split <;> omega
theorem near_R {σ : St} {k d : Int} (hd : 0 ≤ d) (hl : ∀ y : Int, 0 ≤ y → y < σ 27 0 0 → apart y k < d → σ 13 y 0 ≠ 0) (hn : ¬ (0 ≤ k - d ∧ k - d < σ 27 0 0 ∧ σ 13 (k - d) 0 = 0)) (h : 0 ≤ k + d ∧ k + d < σ 27 0 0 ∧ σ 13 (k + d) 0 = 0) : near σ k = k + d := by
  refine near_hit ⟨h.1, h.2.1⟩ h.2.2 (fun y a b c => ?_)
  have h1 : ¬ apart y k < d := fun z => hl y a b z c
  have h2 : y ≠ k - d := fun z => by subst z; exact hn ⟨a, b, c⟩
  unfold apart at h1 ⊢
  split at h1 <;> split <;> omega
theorem near_go {σ : St} {k d : Int} (hl : ∀ y : Int, 0 ≤ y → y < σ 27 0 0 → apart y k < d → σ 13 y 0 ≠ 0) (hn : ¬ (0 ≤ k - d ∧ k - d < σ 27 0 0 ∧ σ 13 (k - d) 0 = 0)) (hm : ¬ (0 ≤ k + d ∧ k + d < σ 27 0 0 ∧ σ 13 (k + d) 0 = 0)) : ∀ y : Int, 0 ≤ y → y < σ 27 0 0 → apart y k < d + 1 → σ 13 y 0 ≠ 0 := fun y a b c z => by
  by_cases h : apart y k < d
  · exact hl y a b h z
  · have h1 : y = k - d ∨ y = k + d := by
      unfold apart at c h
      split at c <;> split at h <;> omega
    rcases h1 with rfl | rfl
    · exact hn ⟨a, b, z⟩
    · exact hm ⟨a, b, z⟩
theorem near_end {σ : St} {k d : Int} (hk : 0 ≤ k ∧ k < σ 27 0 0) (hd : σ 27 0 0 ≤ d) (hl : ∀ y : Int, 0 ≤ y → y < σ 27 0 0 → apart y k < d → σ 13 y 0 ≠ 0) : near σ k = -1 :=
  near_none (fun y a b => hl y a b (by unfold apart; split <;> omega))
-- rows and numbers beside them
theorem shL_ups (σ : St) {t : Nat} (h : t ≠ 16) (i j v w j0 m : Int) : shL (ups σ t i j v) w j0 m = ups (shL σ w j0 m) t i j v := by
  funext a b c
  unfold shL
  by_cases ha : a = t
  · subst ha
    rw [if_neg (by omega)]
    unfold ups
    split
    · rfl
    · exact (if_neg (by omega)).symm
  · rw [ups_t _ ha, ups_t _ (Ne.symm h), ups_t _ ha]
theorem rAt_ups (σ : St) {t : Nat} (h : t ≠ 16) (h' : t ≠ 17) (i j v w j0 : Int) : rAt (ups σ t i j v) w j0 = ups (rAt σ w j0) t i j v := by
  unfold rAt
  rw [ups_t _ (Ne.symm h'), shL_ups _ h, ups_comm _ h']
theorem fPass_end {Dg : va_G} {cA : Nat → ClassId} {ad : Nat → Int → Nat} {H : Heap} {σ τ : St} {d : Int} (hW : WP Dg ccnt ad (cE cA ad τ) H) (h0 : σ 17 (6 + d) 0 ≠ 0) (hτ : τ = ups (rAt (ups (ups σ 18 d 0 (-1)) 18 d 0 (σ 16 (6 + d) 0)) (6 + d) 0) 11 (σ 16 (6 + d) 0) 0 (-1)) : WP Dg ccnt ad (cE cA ad (fPass σ d)) H := by
  subst hτ
  unfold fPass
  rw [if_neg h0]
  rw [ups_ups, rAt_ups _ (by decide) (by decide)] at hW
  exact gh (fun _ _ => rfl) hW
-- visitors
theorem seeP_0 (σ : St) (k n : Int) : seeP σ k n 0 = σ := by
  funext t v s
  unfold seeP
  rw [if_neg (by omega)]
theorem seeP_22 (σ : St) (k n i : Int) {t : Nat} (h1 : t ≠ 19) (h2 : t ≠ 21) (v s : Int) : seeP σ k n i t v s = σ t v s := by
  unfold seeP
  rw [if_neg (by omega)]
theorem seeP_rd (σ : St) (k n i : Int) (t : Nat) {v : Int} (s : Int) (h : i ≤ v) : seeP σ k n i t v s = σ t v s := by
  unfold seeP
  rw [if_neg (by omega)]
theorem seeP_go (σ : St) {k n i : Int} (h0 : 0 ≤ i) (h : wouldB σ k n i = true) : fSee (seeP σ k n i) i n = seeP σ k n (i + 1) := by
  unfold fSee
  rw [seeP_rd _ _ _ _ _ _ (Int.le_refl _)]
  funext t v s
  unfold ups seeP
  by_cases hv : v = i
  · subst hv
    by_cases hs : s = n
    · subst hs
      by_cases h1 : t = 21
      · subst h1; rw [if_pos (by omega), if_pos ⟨Or.inr rfl, rfl, h0, by omega, h⟩, if_neg (by decide)]
      · rw [if_neg (by omega)]
        by_cases h2 : t = 19
        · subst h2; rw [if_pos (by omega), if_pos ⟨Or.inl rfl, rfl, h0, by omega, h⟩, if_pos rfl]
        · rw [if_neg (by omega), if_neg (by omega), if_neg (by omega)]
    · rw [if_neg (by omega), if_neg (by omega), if_neg (by omega), if_neg (by omega)]
  · rw [if_neg (by omega), if_neg (by omega)]
    by_cases c : (t = 19 ∨ t = 21) ∧ s = n ∧ 0 ≤ v ∧ v < i ∧ wouldB σ k n v = true
    · have c' : (t = 19 ∨ t = 21) ∧ s = n ∧ 0 ≤ v ∧ v < i + 1 ∧ wouldB σ k n v = true := ⟨c.1, c.2.1, c.2.2.1, by omega, c.2.2.2.2⟩
      rw [if_pos c, if_pos c']
    · rw [if_neg c, if_neg (fun z => c ⟨z.1, z.2.1, z.2.2.1, by omega, z.2.2.2.2⟩)]
theorem seeP_skip (σ : St) {k n i : Int} (h : ¬ wouldB σ k n i = true) : seeP σ k n i = seeP σ k n (i + 1) := by
  funext t v s
  unfold seeP
  by_cases hv : v = i
  · subst hv
    rw [if_neg (by omega), if_neg (fun z => h z.2.2.2.2)]
  · by_cases c : (t = 19 ∨ t = 21) ∧ s = n ∧ 0 ≤ v ∧ v < i ∧ wouldB σ k n v = true
    · have c' : (t = 19 ∨ t = 21) ∧ s = n ∧ 0 ≤ v ∧ v < i + 1 ∧ wouldB σ k n v = true := ⟨c.1, c.2.1, c.2.2.1, by omega, c.2.2.2.2⟩
      rw [if_pos c, if_pos c']
    · rw [if_neg c, if_neg (fun z => c ⟨z.1, z.2.1, z.2.2.1, by omega, z.2.2.2.2⟩)]
theorem seeP_none (σ : St) {k n i : Int} (h0 : 0 ≤ i) (h : ¬ 0 < cN (wouldB σ k n) i) : seeP σ k n i = σ := by
  funext t v s
  unfold seeP
  rw [if_neg]
  rintro ⟨-, -, a, b, c⟩
  exact h ((cN_pos _ h0).mpr ⟨v, a, b, c⟩)
theorem hasV_T {σ σ' : St} (h1 : σ' 22 = σ 22) (h2 : σ' 28 = σ 28) (k : Int) : hasV σ' k ↔ hasV σ k := by
  unfold hasV
  rw [h1, h2]
-- members, counted
theorem cnt_mem {σ : St} (h : IvW σ) {w q : Int} (hw : 0 ≤ w ∧ w < 12) : (mem σ w q → cN (fun j => decide (σ 16 w j = q)) (σ 17 w 0) = 1) ∧ (¬ mem σ w q → cN (fun j => decide (σ 16 w j = q)) (σ 17 w 0) = 0) := by
  obtain ⟨a1, a2, a3⟩ := h w hw.1 hw.2
  constructor
  · rintro ⟨j, b1, b2, b3⟩
    have e := cN_upd (fun j => decide (σ 16 w j = q)) (fun _ => false) (d := j) (n := σ 17 w 0) ⟨b1, b2⟩
    have e2 : ∀ n : Nat, cntB (fun _ => false) n = 0 := fun n => by
      induction n with
      | zero => rfl
      | succ n ih => rw [cntB, ih]; rfl
    have e3 : cN (fun i => if i = j then true else false) (σ 17 w 0) = cN (fun i => decide (σ 16 w i = q)) (σ 17 w 0) := cN_cong (fun i c1 c2 => by
      by_cases hi : i = j
      · rw [if_pos hi, hi]; exact (decide_eq_true b3).symm
      · rw [if_neg hi]
        exact (decide_eq_false (fun z => hi (a3 i j c1 c2 b1 b2 (z.trans b3.symm)))).symm)
    have e4 := cN_upd (fun i => if i = j then true else false) (fun _ => false) (d := j) (n := σ 17 w 0) ⟨b1, b2⟩ (fun i hi => if_neg hi)
    have e5 : cN (fun _ => false) (σ 17 w 0) = 0 := e2 _
    rw [e3, e5] at e4
    simpa using e4
  · intro hn
    have h1 := cN_rng (fun j => decide (σ 16 w j = q)) (i := σ 17 w 0) a1.1
    have h2 := cN_pos (fun j => decide (σ 16 w j = q)) a1.1
    rcases Int.lt_or_le 0 (cN (fun j => decide (σ 16 w j = q)) (σ 17 w 0)) with z | z
    · obtain ⟨j, c1, c2, c3⟩ := h2.mp z
      exact absurd ⟨j, c1, c2, of_decide_eq_true c3⟩ hn
    · omega
end MATH7
