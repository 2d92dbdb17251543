section MATH2
-- the players' piles
abbrev atEnd (σ : St) (p : Int) : Prop := σ 3 (8 + 4 * p + (σ 5 p 0 - 1)) 0 ≤ σ 4 p (σ 5 p 0 - 1)
def pop1 (σ : St) (p : Int) : St := ups (ups σ 5 p 0 (σ 5 p 0 - 1)) 24 p 0 (σ 5 p 0 - 1)
def popN : Nat → St → Int → St
  | 0, σ, _ => σ
  | k + 1, σ, p => if 1 < σ 5 p 0 ∧ atEnd σ p then popN k (pop1 σ p) p else σ
theorem popN_stop (k : Nat) {σ : St} {p : Int} (h : ¬ (1 < σ 5 p 0 ∧ atEnd σ p)) : popN k σ p = σ := by
  cases k with
  | zero => rfl
  | succ k => rw [popN, if_neg h]
theorem popN_go (k : Nat) {σ : St} {p : Int} (h : 1 < σ 5 p 0 ∧ atEnd σ p) : popN (k + 1) σ p = popN k (pop1 σ p) p := by rw [popN, if_pos h]
theorem pop1_h (σ : St) (p : Int) : pop1 σ p 5 p 0 = σ 5 p 0 - 1 := by simp [pop1, ups]
theorem pop1_o (σ : St) (p : Int) {t : Nat} (h1 : t ≠ 5) (h2 : t ≠ 24) (i j : Int) : pop1 σ p t i j = σ t i j := by
  unfold pop1
  rw [ups_t _ h2, ups_t _ h1]
def fPop (σ : St) (p : Int) : St := popN 3 σ p
theorem fCopy_o (σ : St) (r q : Int) {t : Nat} (h1 : t ≠ 1) (h2 : t ≠ 2) (h3 : t ≠ 3) (i j : Int) : fCopy σ r q t i j = σ t i j := by
  unfold fCopy
  rw [cpP_o _ _ _ _ h1 h2, ups_t _ h3]
def fPut (σ : St) (p r : Int) : St := ups (ups (ups (ups (fCopy σ (8 + 4 * p + σ 5 p 0) r) 4 p (σ 5 p 0) 0) 7 p (σ 5 p 0) r) 5 p 0 (σ 5 p 0 + 1)) 24 p 0 (σ 5 p 0 + 1)
def fPutG (σ : St) (p r : Int) : St := if σ 5 p 0 < 4 then fPut σ p r else σ
def fBegP (σ : St) (p r : Int) : St := fPut (ups σ 5 p 0 0) p r
def fBegin (σ : St) (p r : Int) : St := fBegP (ups (ups (ups (ups (ups (ups σ 6 p 0 1) 7 p 0 r) 9 p 0 0) 10 p 0 0) 11 p 0 (-1)) 25 p 0 (-1)) p r
def fSee (σ : St) (v n : Int) : St := ups (ups σ 19 v n (σ 19 v n + 1)) 21 v n 0
theorem put_end {Dg : va_G} {cA : Nat → ClassId} {ad : Nat → Int → Nat} {H : Heap} {σ τ : St} {p r : Int} (hW : WP Dg ccnt ad (cE cA ad τ) H) (hτ : τ = ups (ups (fCopy σ (8 + 4 * p + σ 5 p 0) r) 4 p (σ 5 p 0) 0) 5 p 0 (σ 5 p 0 + 1)) (h0 : σ 5 p 0 = 0 → σ 7 p 0 = r) : WP Dg ccnt ad (cE cA ad (fPut σ p r)) H := by
  subst hτ
  unfold fPut
  rw [ups_comm _ (show (7 : Nat) ≠ 5 by decide)]
  refine gh (fun _ _ => rfl) ?_
  by_cases h : σ 5 p 0 = 0
  · rw [ups_id]
    · exact hW
    · rw [ups_t _ (by decide), ups_t _ (by decide), fCopy_o _ _ _ (by decide) (by decide) (by decide), h]
      exact (h0 h).symm
  · exact gh7 h hW
theorem cpP_ups (σ : St) (i j v r q m : Int) {u : Nat} (h1 : u ≠ 1) (h2 : u ≠ 2) : cpP (ups σ u i j v) r q m = ups (cpP σ r q m) u i j v := by
  funext a b c
  unfold cpP
  by_cases ha : a = u
  · subst ha
    rw [if_neg (by omega)]
    unfold ups
    split
    · rfl
    · exact (if_neg (by omega)).symm
  · rw [ups_t _ ha, ups_t _ ha, ups_t _ ha]
theorem fPut_comm (σ : St) (p r i j v : Int) {u : Nat} (hu : ∀ w, w ∈ [1, 2, 3, 4, 5, 7, 24] → u ≠ w) : fPut (ups σ u i j v) p r = ups (fPut σ p r) u i j v := by
  have h1 := hu 1 (by decide)
  have h2 := hu 2 (by decide)
  have h3 := hu 3 (by decide)
  have h4 := hu 4 (by decide)
  have h5 := hu 5 (by decide)
  have h7 := hu 7 (by decide)
  have h24 := hu 24 (by decide)
  have e : fCopy (ups σ u i j v) (8 + 4 * p + σ 5 p 0) r = ups (fCopy σ (8 + 4 * p + σ 5 p 0) r) u i j v := by
    unfold fCopy
    rw [ups_t _ h3.symm, ups_comm _ h3, cpP_ups _ _ _ _ _ _ _ h1 h2]
  unfold fPut
  rw [ups_t _ h5.symm, e, ups_comm _ h4, ups_comm _ h7, ups_comm _ h5, ups_comm _ h24]
theorem begin_end {Dg : va_G} {cA : Nat → ClassId} {ad : Nat → Int → Nat} {H : Heap} {σ τ : St} {p r : Int} (hW : WP Dg ccnt ad (cE cA ad τ) H) (hτ : τ = fBegP (ups (ups (ups (ups (ups σ 6 p 0 1) 7 p 0 r) 9 p 0 0) 10 p 0 0) 11 p 0 (-1)) p r) : WP Dg ccnt ad (cE cA ad (fBegin σ p r)) H := by
  subst hτ
  unfold fBegin
  unfold fBegP at hW ⊢
  rw [ups_comm _ (show (25 : Nat) ≠ 5 by decide), fPut_comm _ _ _ _ _ _ (by decide)]
  exact gh (fun _ _ => rfl) hW
-- taking one out of a row, as the first object does it
theorem rm_step (σ : St) {w j0 i k : Int} (h : (i ≤ j0 ∧ k = i) ∨ (j0 < i ∧ k = i - 1)) (hne : i ≠ j0) : ups (shL σ w j0 (i - 1)) 16 w k (σ 16 w i) = shL σ w j0 (i + 1 - 1) := by
  rcases h with ⟨h1, rfl⟩ | ⟨h1, rfl⟩
  · rw [shL_0 _ _ (by omega), shL_0 _ _ (by omega)]
    exact ups_id _ _ _ _ rfl
  · have q := shL_s σ (w := w) (j0 := j0) (m := i - 1) (by omega)
    rw [show i - 1 + 1 = i by omega] at q
    rw [q, show i + 1 - 1 = i by omega]
theorem rm_skip (σ : St) (w : Int) {j0 i : Int} (h : i = j0) : shL σ w j0 (i - 1) = shL σ w j0 (i + 1 - 1) := by
  rw [shL_0 _ _ (by omega), shL_0 _ _ (by omega)]
end MATH2
