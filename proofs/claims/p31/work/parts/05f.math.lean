section MATH9
theorem Inv_w13 {N M : Int} {σ : St} {k : Int} (h : Inv N M σ) (hk : 0 ≤ k ∧ k < σ 27 0 0) (z1 : σ 12 k 0 ≠ 0) (z2 : σ 13 k 0 = 0) : Inv N (M + 1) (ups (fWatch1 σ k) 13 k 0 1) := by
  have hA := h.A
  unfold IvA at hA
  have e1 : fWatch1 σ k = ups (ups σ 14 k 0 (σ 14 k 0 + 1)) 23 k 0 (σ 23 k 0 + 1) := by
    unfold fWatch1
    rw [if_neg z1, if_pos z2]
  have hT : ∀ t, t ∉ [13, 14, 23] → ups (fWatch1 σ k) 13 k 0 1 t = σ t := com (wid (fWatch1_T σ k) (by decide)) (upsW _ 13 _ _ _ (by decide))
  refine ⟨IvA_c (fr hT (by decide)) h.A, IvR_c (fr hT (by decide)) h.R, IvH_c (fr hT (by decide)) h.H, IvD_c (fr hT (by decide)) h.D, IvS_c (fr hT (by decide)) h.S, IvC_c (fr hT (by decide)) h.C, IvT_c (fr hT (by decide)) h.T, IvU_c (fr hT (by decide)) h.U, IvL_c (fr hT (by decide)) h.L, ?_, IvW_c (fr hT (by decide)) h.W, IvM_c (fr hT (by decide)) h.M, IvQ_c (fr hT (by decide)) h.Q, IvO_c (fr hT (by decide)) h.O, IvV_c (fr hT (by decide)) h.V⟩
  intro x a b
  obtain ⟨c1, c2, c3, c4, c5, c6, c7, c8⟩ := h.K x a b
  simp (decide := true) only [at1 hT]
  rw [e1]
  simp (decide := true) only [ups_s, ups_t, eq_self_iff_true, and_true, ↓reduceIte]
  by_cases hx : x = k
  · simp only [if_pos hx]
    subst hx
    refine ⟨?_, ?_, ?_, ?_, ?_, ?_, ?_, ?_⟩ <;> first | omega | simp | (simp; omega) | (intro u; omega)
  · simp only [if_neg hx]
    omega
theorem gath_T (n : Nat) (σ : St) (k : Int) : ∀ t, t ∉ [8, 16, 17] → fGather n (fThaw1 σ k) k t = σ t := com (fThaw1_T σ k) (fGather_T n _ k)
-- a stop
theorem fPass_18o (σ : St) {d x : Int} (h : x ≠ d) : fPass σ d 18 x 0 = σ 18 x 0 := by
  unfold fPass
  split
  · exact ups_i _ _ _ h _ _ _
  · rw [ups_t _ (by decide), ups_t _ (by decide), ups_i _ _ _ h, rAt_o _ _ _ (by decide) (by decide)]
theorem fFrees_18 (σ : St) (k : Int) : ∀ (n : Nat) {d : Int}, (n : Int) ≤ d → fFrees n σ k 18 d 0 = σ 18 d 0
  | 0, _, _ => rfl
  | n + 1, d, h => by
    rw [fFrees]
    split
    · rw [fPass_18o _ (by omega)]; exact fFrees_18 σ k n (by omega)
    · exact fFrees_18 σ k n (by omega)
theorem Inv_fFrees0 {N M k : Int} : ∀ (n : Nat), n ≤ 6 → ∀ {σ : St}, Inv N M σ → Inv N M (fFrees n σ k)
  | 0, _, _, h => h
  | n + 1, hn, σ, h => by
    rw [fFrees]
    split
    · exact Inv_fPass (Inv_fFrees0 n (by omega) h) (by omega)
    · exact Inv_fFrees0 n (by omega) h
theorem IvW_fPass {σ : St} (h : IvW σ) {d : Int} (hd : 0 ≤ d ∧ d < 6) : IvW (fPass σ d) := by
  have a1 := (h (6 + d) (by omega) (by omega)).1
  unfold fPass
  split
  · exact IvW_c (fr (T := [18]) (ups_T _ _ _ _ _) (by decide)) h
  · refine IvW_c (σ := rAt σ (6 + d) 0) (fr (T := [18, 11, 25]) (com (com (upsW _ 18 _ _ _ (by decide)) (upsW _ 11 _ _ _ (by decide))) (upsW _ 25 _ _ _ (by decide))) (by decide)) (IvW_rAt h ⟨Int.le_refl _, by omega⟩)
theorem mem_fPass {σ : St} (h : IvW σ) {d : Int} (hd : 0 ≤ d ∧ d < 6) {w q : Int} (hm : mem (fPass σ d) w q) : mem σ w q := by
  have a1 := (h (6 + d) (by omega) (by omega))
  unfold fPass at hm
  split at hm
  · exact (mem_T (ups_T _ _ _ _ _ _ (by decide)) (ups_T _ _ _ _ _ _ (by decide)) w q).mp hm
  · have hT : ∀ t, t ∉ [18, 11, 25] → ups (ups (ups (rAt σ (6 + d) 0) 18 d 0 (σ 16 (6 + d) 0)) 11 (σ 16 (6 + d) 0) 0 (-1)) 25 (σ 16 (6 + d) 0) 0 (-1) t = rAt σ (6 + d) 0 t := com (com (upsW _ 18 _ _ _ (by decide)) (upsW _ 11 _ _ _ (by decide))) (upsW _ 25 _ _ _ (by decide))
    rw [mem_T (hT 16 (by decide)) (hT 17 (by decide)), mem_rAt ⟨Int.le_refl _, by omega⟩ a1.2.2] at hm
    exact hm.1
/-- who waits elsewhere keeps waiting -/
theorem fPass_11 {N M : Int} {σ : St} (h : Inv N M σ) {d k : Int} (hd : 0 ≤ d ∧ d < 6) (hk : 0 ≤ k ∧ k < 6) (hw : σ 11 k 0 ≠ d) : fPass σ d 11 k 0 = σ 11 k 0 := by
  have hsz := (h.W (6 + d) (by omega) (by omega)).1
  unfold fPass
  split
  · exact ups_t _ (by decide) _ _ _ _ _
  · next c =>
    have y5 := (h.W (6 + d) (by omega) (by omega)).2.1 0 (by omega) (by omega)
    have y4 := ((h.Q d _ hd.1 hd.2 y5.1 (by omega)).mp ⟨0, by omega, by omega, rfl⟩).2
    rw [ups_t _ (by decide), ups_i _ _ _ (fun z => hw (by rw [z]; exact y4)), ups_t _ (by decide), rAt_o _ _ _ (by decide) (by decide)]
theorem fFrees_11 {N M k : Int} (hk : 0 ≤ k ∧ k < 6) : ∀ (n : Nat), n ≤ 6 → ∀ {σ : St}, Inv N M σ → (σ 11 k 0 = -1 ∨ (n : Int) ≤ σ 11 k 0) → fFrees n σ k 11 k 0 = σ 11 k 0
  | 0, _, _, _, _ => rfl
  | n + 1, hn, σ, h, hw => by
    have ih := fFrees_11 hk n (by omega) h (by omega)
    rw [fFrees]
    split
    · rw [fPass_11 (Inv_fFrees0 n (by omega) h) (by omega) hk (by omega)]; exact ih
    · exact ih
theorem rAt_def (σ : St) (a i : Int) (t : Nat) (x y : Int) : rAt σ a i t x y = if t = 17 ∧ x = a ∧ y = 0 then σ 17 a 0 - 1 else if t = 16 ∧ x = a ∧ i ≤ y ∧ y < σ 17 a 0 - 1 then σ 16 a (y + 1) else σ t x y := rfl
theorem rAt_rAt (σ : St) {a b : Int} (hab : a ≠ b) (i j : Int) : rAt (rAt σ a i) b j = rAt (rAt σ b j) a i := by
  funext t x y
  rw [rAt_def (rAt σ a i) b j, rAt_def (rAt σ b j) a i, rAt_szo _ (Ne.symm hab), rAt_szo _ hab, rAt_row _ (Ne.symm hab), rAt_row _ hab]
  by_cases hx : x = a
  · rw [if_neg (by omega), if_neg (by omega), rAt_def σ a i]
    by_cases h1 : t = 17 ∧ x = a ∧ y = 0
    · rw [if_pos h1, if_pos h1]
    · rw [if_neg h1, if_neg h1, rAt_def σ b j]
      by_cases h2 : t = 16 ∧ x = a ∧ i ≤ y ∧ y < σ 17 a 0 - 1
      · rw [if_pos h2, if_pos h2]
      · rw [if_neg h2, if_neg h2, if_neg (by omega), if_neg (by omega)]
  · rw [if_neg (c := t = 17 ∧ x = a ∧ y = 0) (by omega), if_neg (c := t = 16 ∧ x = a ∧ i ≤ y ∧ y < σ 17 a 0 - 1) (by omega), rAt_def σ b j]
    by_cases h1 : t = 17 ∧ x = b ∧ y = 0
    · rw [if_pos h1, if_pos h1]
    · rw [if_neg h1, if_neg h1]
      by_cases h2 : t = 16 ∧ x = b ∧ j ≤ y ∧ y < σ 17 b 0 - 1
      · rw [if_pos h2, if_pos h2]
      · rw [if_neg h2, if_neg h2, rAt_def σ a i, if_neg (by omega), if_neg (by omega)]
theorem ups_ci (σ : St) (t : Nat) {i i' : Int} (h : i ≠ i') (j v j' v' : Int) : ups (ups σ t i j v) t i' j' v' = ups (ups σ t i' j' v') t i j v := by
  funext a b c
  unfold ups
  by_cases h1 : a = t ∧ b = i ∧ c = j
  · rw [if_pos h1, if_neg (by omega), if_pos h1]
  · by_cases h2 : a = t ∧ b = i' ∧ c = j'
    · rw [if_pos h2, if_neg h1, if_pos h2]
    · rw [if_neg h2, if_neg h1, if_neg h1, if_neg h2]
/-- one taken out of the queue of w, at place j -/
def unqA (σ : St) (k w j : Int) : St := ups (ups (rAt σ (6 + w) j) 11 k 0 (-1)) 25 k 0 (-1)
theorem fPass_unqA (σ : St) {k w j d : Int} (hdw : d ≠ w) (hq : σ 17 (6 + d) 0 ≠ 0 → σ 16 (6 + d) 0 ≠ k) : fPass (unqA σ k w j) d = unqA (fPass σ d) k w j := by
  have e17 : unqA σ k w j 17 (6 + d) 0 = σ 17 (6 + d) 0 := by unfold unqA; rw [ups_t _ (by decide), ups_t _ (by decide), rAt_szo _ (by omega)]
  have e16 : unqA σ k w j 16 (6 + d) 0 = σ 16 (6 + d) 0 := by unfold unqA; rw [ups_t _ (by decide), ups_t _ (by decide), rAt_row _ (by omega)]
  unfold fPass
  rw [e17, e16]
  by_cases h0 : σ 17 (6 + d) 0 = 0
  · rw [if_pos h0, if_pos h0]
    unfold unqA
    rw [rAt_ups _ (by decide) (by decide), ups_comm _ (show (25 : Nat) ≠ 18 by decide), ups_comm _ (show (11 : Nat) ≠ 18 by decide)]
  · rw [if_neg h0, if_neg h0]
    have hk : k ≠ σ 16 (6 + d) 0 := fun z => hq h0 z.symm
    unfold unqA
    rw [rAt_ups _ (by decide) (by decide), rAt_ups _ (by decide) (by decide), rAt_ups _ (by decide) (by decide), rAt_ups _ (by decide) (by decide), rAt_ups _ (by decide) (by decide), rAt_rAt _ (show (6 + d : Int) ≠ 6 + w by omega)]
    rw [ups_comm (rAt (rAt σ (6 + w) j) (6 + d) 0 |> fun x => ups x 11 k 0 (-1)) (show (25 : Nat) ≠ 18 by decide), ups_comm _ (show (11 : Nat) ≠ 18 by decide)]
    rw [ups_comm _ (show (25 : Nat) ≠ 11 by decide), ups_ci _ 11 hk, ups_ci _ 25 hk, ups_comm _ (show (11 : Nat) ≠ 25 by decide)]
theorem fFrees_unqA {N M k w j : Int} (hk : 0 ≤ k ∧ k < 6) : ∀ (n : Nat), n ≤ 6 → (n : Int) ≤ w → ∀ {σ : St}, Inv N M σ → σ 11 k 0 = w → fFrees n (unqA σ k w j) k = unqA (fFrees n σ k) k w j
  | 0, _, _, _, _, _ => rfl
  | n + 1, hn, hw, σ, h, h11 => by
    have ih := fFrees_unqA hk n (by omega) (by omega) (j := j) h h11
    have hI := Inv_fFrees0 (k := k) n (by omega) h
    have h11' := fFrees_11 hk n (by omega) h (by omega)
    have e18 : unqA (fFrees n σ k) k w j 18 n 0 = fFrees n σ k 18 n 0 := by unfold unqA; rw [ups_t _ (by decide), ups_t _ (by decide), rAt_o _ _ _ (by decide) (by decide)]
    rw [fFrees, fFrees, ih, e18]
    split
    · refine fPass_unqA _ (by omega) (fun h0 z => ?_)
      have sz := (hI.W (6 + n) (by omega) (by omega)).1
      have y4 := ((hI.Q n k (by omega) (by omega) hk.1 hk.2).mp ⟨0, by omega, by omega, z⟩).2
      omega
    · rfl
/-- the first object's numbers while a stop is under way, the devices below d done -/
def stC (σ : St) (k d : Int) : St := if σ 11 k 0 = -1 ∨ d ≤ σ 11 k 0 then fFrees d.toNat σ k else ups (fFrees d.toNat (fUnq σ k) k) 11 k 0 (σ 11 k 0)
theorem fFrees_s {σ : St} {k d : Int} (hd : 0 ≤ d) : fFrees (d + 1).toNat σ k = if fFrees d.toNat σ k 18 d 0 = k then fPass (fFrees d.toNat σ k) d else fFrees d.toNat σ k := by
  rw [show (d + 1).toNat = d.toNat + 1 by omega, fFrees, Int.toNat_of_nonneg hd]
theorem stC_0 (σ : St) (k : Int) (h : -1 ≤ σ 11 k 0) : stC σ k 0 = σ := by
  unfold stC
  rw [if_pos (by omega)]
  rfl
theorem fUnq_18 (σ : St) (k d : Int) : fUnq σ k 18 d 0 = σ 18 d 0 := at1 (fUnq_T σ k) (by decide) d 0
theorem fUnq_w {N M : Int} {σ : St} (h : Inv N M σ) {k : Int} (hk : 0 ≤ k ∧ k < 6) (h6 : σ 6 k 0 = 1) (hw : σ 11 k 0 ≠ -1) : fUnq σ k = unqA σ k (σ 11 k 0) (idx σ (6 + σ 11 k 0) k) := by
  have e := (h.U k hk.1 hk.2).2.2 h6
  unfold fUnq
  rw [if_neg (by omega), e]
  rfl
theorem fPass_upsk (σ : St) {k d v : Int} (hq : σ 17 (6 + d) 0 ≠ 0 → σ 16 (6 + d) 0 ≠ k) : fPass (ups σ 11 k 0 v) d = ups (fPass σ d) 11 k 0 v := by
  unfold fPass
  rw [ups_t _ (by decide), ups_t _ (by decide)]
  by_cases h0 : σ 17 (6 + d) 0 = 0
  · rw [if_pos h0, if_pos h0, ups_comm _ (by decide)]
  · rw [if_neg h0, if_neg h0, rAt_ups _ (by decide) (by decide), ups_comm _ (show (11 : Nat) ≠ 18 by decide), ups_ci _ 11 (fun z => hq h0 z.symm), ups_comm _ (show (11 : Nat) ≠ 25 by decide)]
theorem idx_T0 {σ σ' : St} {w : Int} (h1 : ∀ j : Int, σ' 16 w j = σ 16 w j) (h2 : σ' 17 w 0 = σ 17 w 0) (p : Int) : idx σ' w p = idx σ w p := by
  unfold idx
  rw [h2, show σ' 16 w = σ 16 w from funext h1]
theorem fPass_row (σ : St) {d w : Int} (h : w ≠ 6 + d) : (∀ j : Int, fPass σ d 16 w j = σ 16 w j) ∧ fPass σ d 17 w 0 = σ 17 w 0 := by
  unfold fPass
  split
  · exact ⟨fun j => ups_t _ (by decide) _ _ _ _ _, ups_t _ (by decide) _ _ _ _ _⟩
  · refine ⟨fun j => ?_, ?_⟩
    · rw [ups_t _ (by decide), ups_t _ (by decide), ups_t _ (by decide), rAt_row _ h]
    · rw [ups_t _ (by decide), ups_t _ (by decide), ups_t _ (by decide), rAt_szo _ h]
theorem fFrees_idx {N M k : Int} (hk : 0 ≤ k ∧ k < 6) : ∀ (n : Nat), n ≤ 6 → ∀ {σ : St} {d : Int}, Inv N M σ → (n : Int) ≤ d → idx (fFrees n σ k) (6 + d) k = idx σ (6 + d) k
  | 0, _, _, _, _, _ => rfl
  | n + 1, hn, σ, d, h, hd => by
    have ih := fFrees_idx hk n (by omega) h (d := d) (by omega)
    rw [fFrees]
    split
    · obtain ⟨a, b⟩ := fPass_row (fFrees n σ k) (d := n) (w := 6 + d) (by omega)
      rw [idx_T0 a b, ih]
    · exact ih
theorem stop_at {N M : Int} {σ : St} (h : Inv N M σ) {k : Int} (hk : 0 ≤ k ∧ k < 6) (h6 : σ 6 k 0 = 1) {d : Int} (hd : 0 ≤ d ∧ d < 6) :
    IvW (stC σ k d) ∧ stC σ k d 18 d 0 = σ 18 d 0 ∧
    (σ 18 d 0 = k → ¬ mem (fPass (stC σ k d) d) (6 + d) k ∧ fPass (stC σ k d) d = stC σ k (d + 1)) ∧
    (σ 18 d 0 ≠ k → (σ 11 k 0 ≠ d → ¬ mem (stC σ k d) (6 + d) k ∧ stC σ k d = stC σ k (d + 1)) ∧ (σ 11 k 0 = d → mem (stC σ k d) (6 + d) k ∧ ups (rAt (stC σ k d) (6 + d) (idx (stC σ k d) (6 + d) k)) 25 k 0 (-1) = stC σ k (d + 1))) := by
  have hU := h.U k hk.1 hk.2
  have hO := h.O.2 k hk.1 hk.2 h6
  by_cases c : σ 11 k 0 = -1 ∨ d ≤ σ 11 k 0
  · have e : stC σ k d = fFrees d.toNat σ k := by unfold stC; rw [if_pos c]
    have hI := Inv_fFrees0 (k := k) d.toNat (by omega) h
    have h11 := fFrees_11 hk d.toNat (by omega) h (by omega)
    have h18 := fFrees_18 σ k d.toNat (d := d) (by omega)
    have h6' : fFrees d.toNat σ k 6 k 0 = 1 := by rw [at1 (fFrees_T _ σ k) (by decide)]; exact h6
    have hq := hI.Q d k hd.1 hd.2 hk.1 hk.2
    rw [e]
    refine ⟨hI.W, h18, fun ho => ⟨fun z => ?_, ?_⟩, fun ho => ⟨fun hw => ⟨fun z => ?_, ?_⟩, fun hw => ⟨hq.mpr ⟨h6', by omega⟩, ?_⟩⟩⟩
    · have := (hq.mp (mem_fPass hI.W hd z)).2
      have hw : σ 11 k 0 = d := by omega
      have := (hO.2 (by omega)).2
      rw [hw] at this
      exact this ho
    · have hw : σ 11 k 0 ≠ d := fun hw => by
        have := (hO.2 (by omega)).2
        rw [hw] at this
        exact this ho
      unfold stC
      rw [if_pos (by omega), fFrees_s hd.1, if_pos (by rw [h18]; exact ho)]
    · have := (hq.mp z).2
      omega
    · unfold stC
      rw [if_pos (by omega), fFrees_s hd.1, if_neg (by rw [h18]; exact ho)]
    · have hw1 : σ 11 k 0 ≠ -1 := by omega
      have e1 : fFrees d.toNat (fUnq σ k) k = unqA (fFrees d.toNat σ k) k d (idx σ (6 + d) k) := by
        rw [fUnq_w h hk h6 hw1, hw, fFrees_unqA hk d.toNat (by omega) (by omega) h hw]
      have e18 : fFrees d.toNat (fUnq σ k) k 18 d 0 = σ 18 d 0 := (fFrees_18 _ k d.toNat (by omega)).trans (fUnq_18 σ k d)
      have eI : idx (fFrees d.toNat σ k) (6 + d) k = idx σ (6 + d) k := fFrees_idx hk d.toNat (by omega) h (by omega)
      unfold stC
      rw [if_neg (by omega), fFrees_s hd.1, e18, if_neg ho, e1, eI]
      unfold unqA
      rw [ups_comm _ (show (25 : Nat) ≠ 11 by decide), ups_ups, ups_id _ 11 k 0 (by rw [rAt_o _ _ _ (by decide) (by decide), h11])]
  · have hw1 : σ 11 k 0 ≠ -1 := by omega
    have e : stC σ k d = ups (fFrees d.toNat (fUnq σ k) k) 11 k 0 (σ 11 k 0) := by unfold stC; rw [if_neg c]
    have hU1 := Inv_fUnq h hk h6
    obtain ⟨hI, h11, -, -⟩ := Inv_fFrees hk d.toNat (by omega) hU1 (fUnq_11 h hk h6)
    have h18 : fFrees d.toNat (fUnq σ k) k 18 d 0 = σ 18 d 0 := (fFrees_18 _ k d.toNat (by omega)).trans (fUnq_18 σ k d)
    have hq := hI.Q d k hd.1 hd.2 hk.1 hk.2
    have hW : IvW (ups (fFrees d.toNat (fUnq σ k) k) 11 k 0 (σ 11 k 0)) := IvW_c (fr (ups_T _ _ _ _ _) (by decide)) hI.W
    have hm : ¬ mem (ups (fFrees d.toNat (fUnq σ k) k) 11 k 0 (σ 11 k 0)) (6 + d) k := fun z => by
      have := (hq.mp ((mem_T (ups_T _ _ _ _ _ _ (by decide)) (ups_T _ _ _ _ _ _ (by decide)) _ _).mp z)).2
      omega
    have sz := (hI.W (6 + d) (by omega) (by omega)).1
    rw [e]
    refine ⟨hW, by rw [ups_t _ (by decide)]; exact h18, fun ho => ⟨fun z => hm (mem_fPass hW hd z), ?_⟩, fun ho => ⟨fun hw => ⟨hm, ?_⟩, fun hw => by omega⟩⟩
    · unfold stC
      rw [if_neg (by omega), fFrees_s hd.1, if_pos (by rw [h18]; exact ho)]
      exact fPass_upsk _ (fun h0 z => by have := (hq.mp ⟨0, by omega, by omega, z⟩).2; omega)
    · unfold stC
      rw [if_neg (by omega), fFrees_s hd.1, if_neg (by rw [h18]; exact ho)]
theorem idx_T {σ σ' : St} {w : Int} (h1 : ∀ j : Int, σ' 16 w j = σ 16 w j) (h2 : σ' 17 w 0 = σ 17 w 0) (p : Int) : idx σ' w p = idx σ w p := by
  unfold idx
  rw [h2, show σ' 16 w = σ 16 w from funext h1]
theorem fLeave_ups (σ : St) (p i j v : Int) : fLeave (ups σ 11 i j v) p = ups (fLeave σ p) 11 i j v := by
  unfold fLeave
  rw [ups_t _ (by decide), idx_T (σ := σ) (fun _ => ups_t _ (by decide) _ _ _ _ _) (ups_t _ (by decide) _ _ _ _ _)]
  split
  · rfl
  · rw [rAt_ups _ (by decide) (by decide), ups_comm _ (by decide)]
theorem stop_fin {N M : Int} {σ : St} (h : Inv N M σ) {k : Int} (hk : 0 ≤ k ∧ k < 6) (h6 : σ 6 k 0 = 1) :
    IvW (stC σ k 6) ∧ stC σ k 6 8 k 0 = σ 8 k 0 ∧ (stC σ k 6 8 k 0 ≠ -1 → mem (stC σ k 6) (stC σ k 6 8 k 0) k) ∧ ups (fLeave (stC σ k 6) k) 6 k 0 0 = fStop σ k := by
  have hU := h.U k hk.1 hk.2
  have hU1 := Inv_fUnq h hk h6
  obtain ⟨hI, h11, -, -⟩ := Inv_fFrees hk 6 (Nat.le_refl _) hU1 (fUnq_11 h hk h6)
  have h8 : fFrees 6 (fUnq σ k) k 8 k 0 = σ 8 k 0 := by rw [at1 (fFrees_T _ _ k) (by decide), at1 (fUnq_T σ k) (by decide)]
  have e : stC σ k 6 = ups (fFrees 6 (fUnq σ k) k) 11 k 0 (σ 11 k 0) := by
    unfold stC
    by_cases hw : σ 11 k 0 = -1
    · rw [if_pos (Or.inl hw)]
      have e2 : fUnq σ k = σ := by
        unfold fUnq
        rw [if_pos (by rw [hU.2.2 h6]; exact hw)]
      rw [e2] at h11 ⊢
      exact (ups_id _ _ _ _ (by rw [hw]; exact h11.symm)).symm
    · rw [if_neg (by omega)]
      rfl
  have hm : ∀ w q : Int, mem (ups (fFrees 6 (fUnq σ k) k) 11 k 0 (σ 11 k 0)) w q ↔ mem (fFrees 6 (fUnq σ k) k) w q := fun w q => mem_T (ups_T _ _ _ _ _ _ (by decide)) (ups_T _ _ _ _ _ _ (by decide)) w q
  rw [e]
  refine ⟨IvW_c (fr (ups_T _ _ _ _ _) (by decide)) hI.W, by rw [ups_t _ (by decide)]; exact h8, fun z => ?_, ?_⟩
  · rw [ups_t _ (by decide)] at z ⊢
    exact (hm _ _).mpr (mem_rows hI hk z).2
  · rw [fLeave_ups, ups_comm _ (show (11 : Nat) ≠ 6 by decide)]
    rfl
end MATH9
