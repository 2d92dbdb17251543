section MATH8
theorem fPop_T (σ : St) (p : Int) : ∀ t, t ∉ [5, 24] → fPop σ p t = σ t := popN_T 3 σ p
theorem sv_go {f : Int → Bool} {i : Int} (h0 : 0 ≤ i) (h : f i = true) : (1 : Int) = if 0 < cN f (i + 1) then 1 else 0 := by
  rw [if_pos]
  rw [cN_t f h0 h]
  have := (cN_rng f h0).1
  omega
theorem sv_no {f : Int → Bool} {i sv : Int} (h0 : 0 ≤ i) (h : ¬ f i = true) (hs : sv = if 0 < cN f i then 1 else 0) : sv = if 0 < cN f (i + 1) then 1 else 0 := by
  rw [cN_f f h0 (by cases hf : f i; rfl; exact absurd hf h)]
  exact hs
theorem held_rng (σ : St) (p : Int) : 0 ≤ held σ p ∧ held σ p ≤ 6 := cN_rng _ (by decide)
theorem fSettle_no {σ : St} {p k : Int} (h : σ 8 p 0 = -1) : fSettle σ p k = fCome σ p k := by
  unfold fSettle fLeave
  rw [if_pos h]
theorem oObey_le (σ : St) (p k n : Int) : oObey σ p k n ≤ 2 := by
  unfold oObey oShow oLease
  repeat' split
  all_goals omega
theorem oLine_le (σ : St) (p : Int) : oLine σ p ≤ 2 := by
  unfold oLine oDo
  split
  · exact Nat.zero_le _
  · exact oObey_le _ _ _ _
theorem fShow_30 (σ : St) (k n : Int) : fShow σ k n 30 0 0 = σ 30 0 0 + (if oShow σ k n = 1 then 1 else 0) := by
  unfold fShow oShow
  split
  · simp
  · rw [ups_eq]; simp
theorem fObey_30 (σ : St) (p k n : Int) : fObey σ p k n 30 0 0 = σ 30 0 0 + (if oObey σ p k n = 1 then 1 else 0) := by
  unfold fObey oObey
  by_cases h1 : k = 115
  · rw [if_pos h1, if_pos h1]; exact fShow_30 _ _ _
  rw [if_neg h1, if_neg h1]
  by_cases h2 : k = 119
  · rw [if_pos h2, if_pos h2, ups_t _ (by decide)]; simp
  rw [if_neg h2, if_neg h2]
  by_cases h3 : k = 100
  · rw [if_pos h3, if_pos h3, at1 (fLease_T σ p n) (by decide), if_neg]
    · simp
    · unfold oLease
      split
      · decide
      split <;> decide
  rw [if_neg h3, if_neg h3, show (if (0 : Nat) = 1 then (1 : Int) else 0) = 0 from rfl]
  have e : ∀ {x : St}, x 30 0 0 = σ 30 0 0 → x 30 0 0 = σ 30 0 0 + 0 := fun h => by rw [h]; omega
  split
  · split
    · exact e (at1 (fPass_T σ n) (by decide) 0 0)
    · exact e rfl
  split
  · split
    · exact e (at1 (fPutG_T σ p n) (by decide) 0 0)
    · exact e rfl
  split
  · exact e (ups_t _ (by decide) _ _ _ _ _)
  · exact e (at1 (fBranch_T σ p k n) (by decide) 0 0)
theorem fLine_30 (σ : St) (p : Int) : fLine σ p 30 0 0 = σ 30 0 0 + (if oLine σ p = 1 then 1 else 0) := by
  have h : fHead σ p 30 0 0 = σ 30 0 0 := at1 (fHead_T σ p) (by decide) 0 0
  unfold fLine oLine fDo oDo
  split
  · rw [at1 (fBegP_T _ _ _) (by decide), h]; simp
  · rw [fObey_30]
    unfold fStep
    rw [ups_t _ (by decide), h]
/-- a turn under way: the state, the lines done, the last outcome -/
def TurnI (N M : Int) (σ : St) (p : Int) (τ : St) (i : Int) (o : Nat) : Prop :=
  (o = 0 ∧ fLines (8 - i).toNat τ p = fLines 8 σ p ∧ τ 30 0 0 = σ 30 0 0 ∧ Inv N M τ ∧ τ 6 p 0 = 1 ∧ τ 11 p 0 = -1 ∧ τ 8 p 0 = σ 8 p 0) ∨ (o ≠ 0 ∧ o ≤ 2 ∧ τ = fLines 8 σ p ∧ τ 30 0 0 = σ 30 0 0 + (if o = 1 then 1 else 0))
theorem TurnI.le {N M : Int} {σ τ : St} {p i : Int} {o : Nat} (h : TurnI N M σ p τ i o) : o ≤ 2 := by
  rcases h with h | h
  · rw [h.1]; decide
  · exact h.2.1
theorem turn_step {N M : Int} {σ τ : St} {p i : Int} {o : Nat} (h : TurnI N M σ p τ i o) (ho : o = 0) (hp : 0 ≤ p ∧ p < 6) (hi : 0 ≤ i ∧ i < 8) : TurnI N M σ p (fLine τ p) (i + 1) (oLine τ p) := by
  obtain ⟨-, j1, j2, j3, j4, j5, j6⟩ := h.resolve_right (fun z => z.1 ho)
  rw [show (8 - i).toNat = (8 - (i + 1)).toNat + 1 by omega, fLines] at j1
  by_cases c : oLine τ p = 0
  · rw [if_pos c] at j1
    refine Or.inl ⟨c, j1, ?_, Inv_fLine j3 hp j4 j5, ?_, fLine_11 j3 hp j4 j5 c, ?_⟩
    · rw [fLine_30, if_neg (by omega), j2]; omega
    · rw [at1 (fLine_T τ p) (by decide)]; exact j4
    · rw [at1 (fLine_T τ p) (by decide)]; exact j6
  · rw [if_neg c] at j1
    exact Or.inr ⟨c, oLine_le _ _, j1, by rw [fLine_30, j2]⟩
theorem turn_end {N M : Int} {σ τ : St} {p i : Int} {o : Nat} (h : TurnI N M σ p τ i o) (hi : 8 ≤ i ∨ o ≠ 0) : τ = fLines 8 σ p ∧ τ 30 0 0 = σ 30 0 0 + (if o = 1 then 1 else 0) := by
  rcases h with h | h
  · rw [show (8 - i).toNat = 0 by omega, fLines] at h
    exact ⟨h.2.1, by rw [h.2.2.1, h.1]; simp⟩
  · exact ⟨h.2.2.1, h.2.2.2⟩
theorem fTurn_go {σ : St} {p : Int} (h1 : ¬ 0 < σ 10 p 0) (h2 : σ 11 p 0 = -1) : fTurn σ p = fLines 8 σ p := by
  unfold fTurn
  rw [if_neg h1, if_neg (fun z => z h2)]
-- rows of players, kiosks
theorem fRow_stop {σ : St} {k j : Int} (h : ¬ j < σ 17 k 0) : ∀ n : Nat, fRow n σ k j = σ
  | 0 => rfl
  | n + 1 => by rw [fRow, if_neg h]
theorem fRow_step {σ : St} {k j : Int} (hj : j < 6) (h : j < σ 17 k 0) : fRow (6 - j).toNat σ k j = fRow (6 - (j + 1)).toNat (fTurn σ (σ 16 k j)) k (j + 1) := by
  rw [show (6 - j).toNat = (6 - (j + 1)).toNat + 1 by omega, fRow, if_pos h]
theorem fKs_stop {σ : St} {i : Int} (h : ¬ i < σ 27 0 0) : ∀ n : Nat, fKs n σ i = σ
  | 0 => rfl
  | n + 1 => by rw [fKs, if_neg h]
theorem fKs_step {σ : St} {i : Int} (hi : i < 6) (h : i < σ 27 0 0) : fKs (6 - i).toNat σ i = fKs (6 - (i + 1)).toNat (if σ 12 i 0 = 0 then fRow 6 σ i 0 else σ) (i + 1) := by
  rw [show (6 - i).toNat = (6 - (i + 1)).toNat + 1 by omega, fKs, if_pos h]
theorem fWs_stop {σ : St} {i : Int} (h : ¬ i < σ 27 0 0) : ∀ n : Nat, fWs n σ i = σ
  | 0 => rfl
  | n + 1 => by rw [fWs, if_neg h]
theorem fWs_step {σ : St} {i : Int} (hi : i < 6) (h : i < σ 27 0 0) : fWs (6 - i).toNat σ i = fWs (6 - (i + 1)).toNat (fWatch σ i) (i + 1) := by
  rw [show (6 - i).toNat = (6 - (i + 1)).toNat + 1 by omega, fWs, if_pos h]
theorem fWs_T : ∀ (n : Nat) (σ : St) (i : Int), ∀ t, t ∉ [8, 13, 14, 16, 17, 23] → fWs n σ i t = σ t
  | 0, σ, i => id_T _ _
  | n + 1, σ, i => by
    rw [fWs]
    split
    · exact com (fWatch_T σ i) (fWs_T n _ _)
    · exact id_T _ _
theorem fTick_step {σ : St} {i n : Int} (h : i < n) : fTick (n - i).toNat σ = fTick (n - (i + 1)).toNat (fTick1 σ) := by
  rw [show (n - i).toNat = (n - (i + 1)).toNat + 1 by omega, fTick]
theorem fMove_step {σ : St} {k r i l : Int} (h : i < l) : fMove (l - i).toNat σ k r = fMove (l - (i + 1)).toNat (fSettle σ (σ 16 k 0) r) k r := by
  rw [show (l - i).toNat = (l - (i + 1)).toNat + 1 by omega, fMove]
theorem fGather_step {σ : St} {k i : Int} (h : 0 ≤ i) : fGather (i + 1).toNat σ k = if fGather i.toNat σ k 6 i 0 ≠ 0 ∧ fGather i.toNat σ k 8 i 0 = -1 then fCome (fGather i.toNat σ k) i k else fGather i.toNat σ k := by
  rw [show (i + 1).toNat = i.toNat + 1 by omega, fGather, Int.toNat_of_nonneg h]
theorem cGather_step {σ : St} {k i : Int} (h : 0 ≤ i) : cGather (i + 1).toNat σ k = if fGather i.toNat σ k 6 i 0 ≠ 0 ∧ fGather i.toNat σ k 8 i 0 = -1 then cGather i.toNat σ k + 1 else cGather i.toNat σ k := by
  rw [show (i + 1).toNat = i.toNat + 1 by omega, cGather, Int.toNat_of_nonneg h]
end MATH8
