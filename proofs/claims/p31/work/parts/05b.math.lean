section MATH5
theorem ups_s (σ : St) (t : Nat) (i j v i' j' : Int) : ups σ t i j v t i' j' = if i' = i ∧ j' = j then v else σ t i' j' := by simp [ups]
theorem aLast_T (σ : St) (w p : Int) : ∀ t, t ∉ [16, 17] → aLast σ w p t = σ t := fun t h => by
  funext a b
  exact aLast_o σ w p (fun z => h (by simp [z])) (fun z => h (by simp [z])) a b
theorem aFirst_T (σ : St) (w p : Int) : ∀ t, t ∉ [16, 17] → aFirst σ w p t = σ t := fun t h => by
  funext a b
  exact aFirst_o σ w p (fun z => h (by simp [z])) (fun z => h (by simp [z])) a b
theorem rAt_T (σ : St) (w j : Int) : ∀ t, t ∉ [16, 17] → rAt σ w j t = σ t := fun t h => by
  funext a b
  exact rAt_o σ w j (fun z => h (by simp [z])) (fun z => h (by simp [z])) a b
theorem fCopy_T (σ : St) (r q : Int) : ∀ t, t ∉ [1, 2, 3] → fCopy σ r q t = σ t := fun t h => by
  funext a b
  exact fCopy_o σ r q (fun z => h (by simp [z])) (fun z => h (by simp [z])) (fun z => h (by simp [z])) a b
theorem wid {σ σ' : St} {T T' : List Nat} (h : ∀ t, t ∉ T → σ' t = σ t) (hs : ∀ t, t ∈ T → t ∈ T') : ∀ t, t ∉ T' → σ' t = σ t := fun t ht => h t (fun z => ht (hs t z))
theorem com {σ σ' σ'' : St} {T : List Nat} (h : ∀ t, t ∉ T → σ' t = σ t) (h' : ∀ t, t ∉ T → σ'' t = σ' t) : ∀ t, t ∉ T → σ'' t = σ t := fun t ht => (h' t ht).trans (h t ht)
theorem upsW (σ : St) (t : Nat) (i j v : Int) {T : List Nat} (ht : t ∈ T) : ∀ t', t' ∉ T → ups σ t i j v t' = σ t' := wid (ups_T σ t i j v) (fun t' z => by rw [List.mem_singleton.mp z]; exact ht)
theorem fPut_T (σ : St) (p r : Int) : ∀ t, t ∉ [1, 2, 3, 4, 5, 7, 24] → fPut σ p r t = σ t :=
  com (com (com (com (wid (fCopy_T σ _ r) (by decide)) (upsW _ 4 _ _ _ (by decide))) (upsW _ 7 _ _ _ (by decide))) (upsW _ 5 _ _ _ (by decide))) (upsW _ 24 _ _ _ (by decide))
theorem fPutG_T (σ : St) (p r : Int) : ∀ t, t ∉ [1, 2, 3, 4, 5, 7, 24] → fPutG σ p r t = σ t := by
  unfold fPutG
  split
  · exact fPut_T σ p r
  · exact id_T _ _
theorem fBegP_T (σ : St) (p r : Int) : ∀ t, t ∉ [1, 2, 3, 4, 5, 7, 24] → fBegP σ p r t = σ t := com (upsW σ 5 p 0 0 (by decide)) (fPut_T (ups σ 5 p 0 0) p r)
theorem pop1_T (σ : St) (p : Int) : ∀ t, t ∉ [5, 24] → pop1 σ p t = σ t := com (upsW σ 5 _ _ _ (by decide)) (upsW _ 24 _ _ _ (by decide))
theorem popN_T : ∀ (k : Nat) (σ : St) (p : Int), ∀ t, t ∉ [5, 24] → popN k σ p t = σ t
  | 0, σ, p => id_T _ _
  | k + 1, σ, p => by
    rw [popN]
    split
    · exact com (pop1_T σ p) (popN_T k (pop1 σ p) p)
    · exact id_T _ _
theorem fHead_T (σ : St) (p : Int) : ∀ t, t ∉ [5, 24, 29] → fHead σ p t = σ t := com (wid (popN_T 3 σ p) (by decide)) (upsW _ 29 _ _ _ (by decide))
theorem seeP_T (σ : St) (k n i : Int) : ∀ t, t ∉ [19, 21] → seeP σ k n i t = σ t := fun t h => by
  funext a b
  unfold seeP
  rw [if_neg (fun z => h (by rcases z.1 with z | z <;> simp [z]))]
theorem fShow_T (σ : St) (k n : Int) : ∀ t, t ∉ [15, 19, 21, 30] → fShow σ k n t = σ t := by
  unfold fShow
  split
  · exact id_T _ _
  · exact com (com (wid (seeP_T σ k n _) (by decide)) (upsW _ 15 _ _ _ (by decide))) (upsW _ 30 _ _ _ (by decide))
theorem fPass_T (σ : St) (d : Int) : ∀ t, t ∉ [11, 16, 17, 18, 25] → fPass σ d t = σ t := by
  unfold fPass
  split
  · exact upsW _ 18 _ _ _ (by decide)
  · exact com (com (com (wid (rAt_T σ _ _) (by decide)) (upsW _ 18 _ _ _ (by decide))) (upsW _ 11 _ _ _ (by decide))) (upsW _ 25 _ _ _ (by decide))
theorem fLease_T (σ : St) (p d : Int) : ∀ t, t ∉ [11, 16, 17, 18, 25] → fLease σ p d t = σ t := by
  unfold fLease
  split
  · exact id_T _ _
  · split
    · exact upsW _ 18 _ _ _ (by decide)
    · exact com (com (wid (aLast_T σ _ _) (by decide)) (upsW _ 11 _ _ _ (by decide))) (upsW _ 25 _ _ _ (by decide))
theorem fBranch_T (σ : St) (p k n : Int) : ∀ t, t ∉ [4, 9] → fBranch σ p k n t = σ t := by
  unfold fBranch
  split
  · exact upsW _ 9 _ _ _ (by decide)
  · split
    · exact upsW _ 4 _ _ _ (by decide)
    · exact id_T _ _
abbrev TT : List Nat := [1, 2, 3, 4, 5, 7, 9, 10, 11, 15, 16, 17, 18, 19, 21, 24, 25, 29, 30]
theorem fObey_T (σ : St) (p k n : Int) : ∀ t, t ∉ TT → fObey σ p k n t = σ t := by
  unfold fObey
  split
  · exact wid (fShow_T σ _ n) (by decide)
  split
  · exact upsW _ 10 _ _ _ (by decide)
  split
  · exact wid (fLease_T σ p n) (by decide)
  split
  · split
    · exact wid (fPass_T σ n) (by decide)
    · exact id_T _ _
  split
  · split
    · exact wid (fPutG_T σ p n) (by decide)
    · exact id_T _ _
  split
  · exact upsW _ 9 _ _ _ (by decide)
  · exact wid (fBranch_T σ p k n) (by decide)
theorem fDo_T (σ : St) (p : Int) : ∀ t, t ∉ TT → fDo σ p t = σ t := by
  unfold fDo
  split
  · exact wid (fBegP_T σ p _) (by decide)
  · exact com (upsW σ 4 _ _ _ (by decide)) (fObey_T (fStep σ p) p _ _)
theorem fLine_T (σ : St) (p : Int) : ∀ t, t ∉ TT → fLine σ p t = σ t := com (wid (fHead_T σ p) (by decide)) (fDo_T (fHead σ p) p)
theorem fLines_T : ∀ (n : Nat) (σ : St) (p : Int), ∀ t, t ∉ TT → fLines n σ p t = σ t
  | 0, σ, p => id_T _ _
  | n + 1, σ, p => by
    rw [fLines]
    split
    · exact com (fLine_T σ p) (fLines_T n (fLine σ p) p)
    · exact fLine_T σ p
theorem fTurn_T (σ : St) (p : Int) : ∀ t, t ∉ TT → fTurn σ p t = σ t := by
  unfold fTurn
  split
  · exact upsW _ 10 _ _ _ (by decide)
  split
  · exact id_T _ _
  · exact fLines_T 8 σ p
theorem at1 {σ σ' : St} {T : List Nat} (h : ∀ t, t ∉ T → σ' t = σ t) {t : Nat} (ht : t ∉ T) (i j : Int) : σ' t i j = σ t i j := by rw [h t ht]
theorem cntB_upd (f g : Int → Bool) (d : Nat) (ho : ∀ j : Int, j ≠ d → f j = g j) : ∀ n : Nat, cntB f n + (if d < n ∧ g d = true then 1 else 0) = cntB g n + (if d < n ∧ f d = true then 1 else 0)
  | 0 => by simp [cntB]
  | n + 1 => by
    have ih := cntB_upd f g d ho n
    rw [cntB, cntB]
    by_cases hd : d = n
    · subst hd
      simp only [Nat.lt_irrefl, false_and, if_false, Nat.lt_succ_self, true_and] at ih ⊢
      omega
    · rw [ho n (by omega)]
      have e1 : (d < n + 1 ∧ g d = true) ↔ (d < n ∧ g d = true) := by constructor <;> (rintro ⟨a, b⟩; exact ⟨by omega, b⟩)
      have e2 : (d < n + 1 ∧ f d = true) ↔ (d < n ∧ f d = true) := by constructor <;> (rintro ⟨a, b⟩; exact ⟨by omega, b⟩)
      simp only [e1, e2]
      omega
theorem cN_upd (f g : Int → Bool) {d n : Int} (hd : 0 ≤ d ∧ d < n) (ho : ∀ j : Int, j ≠ d → f j = g j) : cN f n + (if g d = true then 1 else 0) = cN g n + (if f d = true then 1 else 0) := by
  have := cntB_upd f g d.toNat (fun j hj => ho j (by omega)) n.toNat
  have e : ((d.toNat : Nat) : Int) = d := Int.toNat_of_nonneg hd.1
  have l : d.toNat < n.toNat := by omega
  simp only [e, l, true_and] at this
  exact this
theorem cntB_cong (f g : Int → Bool) : ∀ n : Nat, (∀ j : Int, 0 ≤ j → j < n → f j = g j) → cntB f n = cntB g n
  | 0, _ => rfl
  | n + 1, h => by rw [cntB, cntB, cntB_cong f g n (fun j a b => h j a (by omega)), h n (by omega) (by omega)]
theorem cN_cong {f g : Int → Bool} {n : Int} (h : ∀ j : Int, 0 ≤ j → j < n → f j = g j) : cN f n = cN g n := cntB_cong f g n.toNat (fun j a b => h j a (by omega))
theorem cntB_pos (f : Int → Bool) : ∀ n : Nat, 0 < cntB f n ↔ ∃ j : Int, 0 ≤ j ∧ j < n ∧ f j = true
  | 0 => ⟨fun h => absurd h (Int.lt_irrefl _), fun ⟨j, a, b, _⟩ => by have b : j < 0 := b; omega⟩
  | n + 1 => by
    have ih := cntB_pos f n
    have hr := cntB_rng f n
    rw [cntB]
    constructor
    · intro h
      by_cases hf : f n = true
      · exact ⟨n, by omega, by omega, hf⟩
      · rw [if_neg hf] at h
        obtain ⟨j, a, b, c⟩ := ih.mp (by omega)
        exact ⟨j, a, by omega, c⟩
    · rintro ⟨j, a, b, c⟩
      by_cases hj : j = n
      · subst hj; rw [if_pos c]; omega
      · have := ih.mpr ⟨j, a, by omega, c⟩
        split <;> omega
theorem cN_pos (f : Int → Bool) {n : Int} (h0 : 0 ≤ n) : 0 < cN f n ↔ ∃ j : Int, 0 ≤ j ∧ j < n ∧ f j = true := by
  have := cntB_pos f n.toNat
  rw [Int.toNat_of_nonneg h0] at this
  exact this
theorem held_ups (σ : St) {d q : Int} (hd : 0 ≤ d ∧ d < 6) (p : Int) : held (ups σ 18 d 0 q) p + (if σ 18 d 0 = p then 1 else 0) = held σ p + (if q = p then 1 else 0) := by
  unfold held
  have := cN_upd (fun j => decide (ups σ 18 d 0 q 18 j 0 = p)) (fun j => decide (σ 18 j 0 = p)) hd (fun j hj => by rw [ups_i _ _ _ hj])
  simp only [ups_eq, decide_eq_true_eq] at this
  exact this
theorem held_T {σ σ' : St} (h : σ' 18 = σ 18) (p : Int) : held σ' p = held σ p := by unfold held; rw [h]
theorem mem_T {σ σ' : St} (h1 : σ' 16 = σ 16) (h2 : σ' 17 = σ 17) (w q : Int) : mem σ' w q ↔ mem σ w q := by unfold mem; rw [h1, h2]
theorem Inv_o29 {N M : Int} {σ : St} {i j v : Int} (h : Inv N M σ) : Inv N M (ups σ 29 i j v) := by
  have hT : ∀ t, t ∉ [29] → ups σ 29 i j v t = σ t := ups_T _ _ _ _ _
  exact ⟨IvA_c (fr hT (by decide)) h.A, IvR_c (fr hT (by decide)) h.R, IvH_c (fr hT (by decide)) h.H, IvD_c (fr hT (by decide)) h.D, IvS_c (fr hT (by decide)) h.S, IvC_c (fr hT (by decide)) h.C, IvT_c (fr hT (by decide)) h.T, IvU_c (fr hT (by decide)) h.U, IvL_c (fr hT (by decide)) h.L, IvK_c (fr hT (by decide)) h.K, IvW_c (fr hT (by decide)) h.W, IvM_c (fr hT (by decide)) h.M, IvQ_c (fr hT (by decide)) h.Q, IvO_c (fr hT (by decide)) h.O, IvV_c (fr hT (by decide)) h.V⟩
theorem Inv_o30 {N M : Int} {σ : St} {i j v : Int} (h : Inv N M σ) : Inv N M (ups σ 30 i j v) := by
  have hT : ∀ t, t ∉ [30] → ups σ 30 i j v t = σ t := ups_T _ _ _ _ _
  exact ⟨IvA_c (fr hT (by decide)) h.A, IvR_c (fr hT (by decide)) h.R, IvH_c (fr hT (by decide)) h.H, IvD_c (fr hT (by decide)) h.D, IvS_c (fr hT (by decide)) h.S, IvC_c (fr hT (by decide)) h.C, IvT_c (fr hT (by decide)) h.T, IvU_c (fr hT (by decide)) h.U, IvL_c (fr hT (by decide)) h.L, IvK_c (fr hT (by decide)) h.K, IvW_c (fr hT (by decide)) h.W, IvM_c (fr hT (by decide)) h.M, IvQ_c (fr hT (by decide)) h.Q, IvO_c (fr hT (by decide)) h.O, IvV_c (fr hT (by decide)) h.V⟩
theorem Inv_o31 {N M : Int} {σ : St} {i j v : Int} (h : Inv N M σ) : Inv N M (ups σ 31 i j v) := by
  have hT : ∀ t, t ∉ [31] → ups σ 31 i j v t = σ t := ups_T _ _ _ _ _
  exact ⟨IvA_c (fr hT (by decide)) h.A, IvR_c (fr hT (by decide)) h.R, IvH_c (fr hT (by decide)) h.H, IvD_c (fr hT (by decide)) h.D, IvS_c (fr hT (by decide)) h.S, IvC_c (fr hT (by decide)) h.C, IvT_c (fr hT (by decide)) h.T, IvU_c (fr hT (by decide)) h.U, IvL_c (fr hT (by decide)) h.L, IvK_c (fr hT (by decide)) h.K, IvW_c (fr hT (by decide)) h.W, IvM_c (fr hT (by decide)) h.M, IvQ_c (fr hT (by decide)) h.Q, IvO_c (fr hT (by decide)) h.O, IvV_c (fr hT (by decide)) h.V⟩
theorem Inv_o4 {N M : Int} {σ : St} {i j v : Int} (h : Inv N M σ) (hv : 0 ≤ v ∧ v ≤ 20) : Inv N M (ups σ 4 i j v) := by
  have hT : ∀ t, t ∉ [4] → (ups σ 4 i j v) t = σ t := ups_T _ _ _ _ _
  refine ⟨?_, ?_, ?_, ?_, ?_, ?_, ?_, ?_, ?_, ?_, ?_, ?_, ?_, ?_, ?_⟩
  · exact IvA_c (fr hT (by decide)) h.A
  · exact IvR_c (fr hT (by decide)) h.R
  · intro p x a b c d
    rw [ups_s]
    split
    · exact hv
    · exact h.H p x a b c d
  · exact IvD_c (fr hT (by decide)) h.D
  · exact IvS_c (fr hT (by decide)) h.S
  · exact IvC_c (fr hT (by decide)) h.C
  · exact IvT_c (fr hT (by decide)) h.T
  · exact IvU_c (fr hT (by decide)) h.U
  · exact IvL_c (fr hT (by decide)) h.L
  · exact IvK_c (fr hT (by decide)) h.K
  · exact IvW_c (fr hT (by decide)) h.W
  · exact IvM_c (fr hT (by decide)) h.M
  · exact IvQ_c (fr hT (by decide)) h.Q
  · exact IvO_c (fr hT (by decide)) h.O
  · exact IvV_c (fr hT (by decide)) h.V
theorem Inv_o9 {N M : Int} {σ : St} {i j v : Int} (h : Inv N M σ) (hv : 0 ≤ v ∧ v ≤ 99) : Inv N M (ups σ 9 i j v) := by
  have hT : ∀ t, t ∉ [9] → (ups σ 9 i j v) t = σ t := ups_T _ _ _ _ _
  refine ⟨?_, ?_, ?_, ?_, ?_, ?_, ?_, ?_, ?_, ?_, ?_, ?_, ?_, ?_, ?_⟩
  · exact IvA_c (fr hT (by decide)) h.A
  · exact IvR_c (fr hT (by decide)) h.R
  · exact IvH_c (fr hT (by decide)) h.H
  · exact IvD_c (fr hT (by decide)) h.D
  · exact IvS_c (fr hT (by decide)) h.S
  · intro p a b
    rw [ups_s]
    split
    · exact hv
    · exact h.C p a b
  · exact IvT_c (fr hT (by decide)) h.T
  · exact IvU_c (fr hT (by decide)) h.U
  · exact IvL_c (fr hT (by decide)) h.L
  · exact IvK_c (fr hT (by decide)) h.K
  · exact IvW_c (fr hT (by decide)) h.W
  · exact IvM_c (fr hT (by decide)) h.M
  · exact IvQ_c (fr hT (by decide)) h.Q
  · exact IvO_c (fr hT (by decide)) h.O
  · exact IvV_c (fr hT (by decide)) h.V
theorem Inv_o10 {N M : Int} {σ : St} {i j v : Int} (h : Inv N M σ) (hv : 0 ≤ v ∧ v ≤ 19) : Inv N M (ups σ 10 i j v) := by
  have hT : ∀ t, t ∉ [10] → (ups σ 10 i j v) t = σ t := ups_T _ _ _ _ _
  refine ⟨?_, ?_, ?_, ?_, ?_, ?_, ?_, ?_, ?_, ?_, ?_, ?_, ?_, ?_, ?_⟩
  · exact IvA_c (fr hT (by decide)) h.A
  · exact IvR_c (fr hT (by decide)) h.R
  · exact IvH_c (fr hT (by decide)) h.H
  · exact IvD_c (fr hT (by decide)) h.D
  · exact IvS_c (fr hT (by decide)) h.S
  · exact IvC_c (fr hT (by decide)) h.C
  · intro p a b
    rw [ups_s]
    split
    · exact hv
    · exact h.T p a b
  · exact IvU_c (fr hT (by decide)) h.U
  · exact IvL_c (fr hT (by decide)) h.L
  · exact IvK_c (fr hT (by decide)) h.K
  · exact IvW_c (fr hT (by decide)) h.W
  · exact IvM_c (fr hT (by decide)) h.M
  · exact IvQ_c (fr hT (by decide)) h.Q
  · exact IvO_c (fr hT (by decide)) h.O
  · exact IvV_c (fr hT (by decide)) h.V
theorem Inv_pop1 {N M : Int} {σ : St} {p : Int} (h : Inv N M σ) (h1 : 1 < σ 5 p 0) : Inv N M (pop1 σ p) := by
  have hT : ∀ t, t ∉ [5, 24] → (pop1 σ p) t = σ t := pop1_T σ p
  refine ⟨?_, ?_, ?_, ?_, ?_, ?_, ?_, ?_, ?_, ?_, ?_, ?_, ?_, ?_, ?_⟩
  · exact IvA_c (fr hT (by decide)) h.A
  · exact IvR_c (fr hT (by decide)) h.R
  · exact IvH_c (fr hT (by decide)) h.H
  · intro q a b
    have e6 : pop1 σ p 6 q 0 = σ 6 q 0 := pop1_o σ p (by decide) (by decide) q 0
    obtain ⟨c1, c2⟩ := h.D q a b
    rw [e6]
    unfold pop1
    rw [ups_t _ (by decide), ups_s, ups_s]
    split
    · next z =>
      obtain ⟨rfl, -⟩ := z
      exact ⟨by omega, fun _ => by omega⟩
    · next z =>
      rw [ups_t _ (by decide)]
      exact ⟨c1, c2⟩
  · exact IvS_c (fr hT (by decide)) h.S
  · exact IvC_c (fr hT (by decide)) h.C
  · exact IvT_c (fr hT (by decide)) h.T
  · exact IvU_c (fr hT (by decide)) h.U
  · exact IvL_c (fr hT (by decide)) h.L
  · exact IvK_c (fr hT (by decide)) h.K
  · exact IvW_c (fr hT (by decide)) h.W
  · exact IvM_c (fr hT (by decide)) h.M
  · exact IvQ_c (fr hT (by decide)) h.Q
  · exact IvO_c (fr hT (by decide)) h.O
  · exact IvV_c (fr hT (by decide)) h.V
theorem Inv_popN {N M : Int} {p : Int} : ∀ (k : Nat) {σ : St}, Inv N M σ → Inv N M (popN k σ p)
  | 0, _, h => h
  | k + 1, σ, h => by
    rw [popN]
    split
    · next z => exact Inv_popN k (Inv_pop1 h z.1)
    · exact h
theorem Inv_fHead {N M : Int} {σ : St} {p : Int} (h : Inv N M σ) : Inv N M (fHead σ p) := Inv_o29 (Inv_popN 3 h)
theorem cp_R {σ : St} (hR : IvR σ) {r q : Int} (hr : 0 ≤ r ∧ r < 32) (hq : 0 ≤ q ∧ q < 32) (hn : q ≠ r) : IvR (fCopy σ r q) := by
  intro x a b
  obtain ⟨c1, c2⟩ := hR x a b
  have e3 : fCopy σ r q 3 x 0 = if x = r then σ 3 q 0 else σ 3 x 0 := by
    unfold fCopy
    rw [cpP_o _ _ _ _ (by decide) (by decide), ups_s]
    simp
  rw [e3]
  by_cases hx : x = r
  · subst hx
    obtain ⟨d1, d2⟩ := hR q hq.1 hq.2
    rw [if_pos rfl]
    refine ⟨d1, fun j f1 f2 => ?_⟩
    obtain ⟨g1, g2⟩ := c2 j f1 f2
    obtain ⟨g3, g4⟩ := d2 j f1 f2
    have v : ∀ t : Nat, t = 1 ∨ t = 2 → fCopy σ x q t x j = if j < σ 3 q 0 then σ t q j else σ t x j := fun t ht => by
      unfold fCopy cpP
      by_cases hj : j < σ 3 q 0
      · rw [if_pos ⟨ht, rfl, f1, hj⟩, if_pos hj, ups_t _ (by omega)]
      · rw [if_neg (fun z => hj z.2.2.2), if_neg hj, ups_t _ (by omega)]
    rw [v 1 (Or.inl rfl), v 2 (Or.inr rfl)]
    by_cases hj : j < σ 3 q 0
    · rw [if_pos hj, if_pos hj]; exact ⟨g3, g4⟩
    · rw [if_neg hj, if_neg hj]; exact ⟨g1, fun z => absurd z hj⟩
  · rw [if_neg hx]
    have v : ∀ t : Nat, t = 1 ∨ t = 2 → ∀ j : Int, fCopy σ r q t x j = σ t x j := fun t ht j => by
      unfold fCopy cpP
      rw [if_neg (fun z => hx z.2.1), ups_t _ (by omega)]
    refine ⟨c1, fun j f1 f2 => ?_⟩
    rw [v 1 (Or.inl rfl), v 2 (Or.inr rfl)]
    exact c2 j f1 f2
theorem put_R {σ : St} (hR : IvR σ) {p r : Int} (hp : 0 ≤ p ∧ p < 6) (hr : 0 ≤ r ∧ r < 8) (hh : 0 ≤ σ 5 p 0 ∧ σ 5 p 0 < 4) : IvR (fPut σ p r) :=
  IvR_c (fr (com (com (com (upsW _ 4 _ _ _ (by decide)) (upsW _ 7 _ _ _ (by decide))) (upsW _ 5 _ _ _ (by decide))) (upsW _ 24 _ _ _ (by decide)) : ∀ t, t ∉ [4, 5, 7, 24] → _ = _) (by decide)) (cp_R hR (r := 8 + 4 * p + σ 5 p 0) (q := r) (by omega) (by omega) (by omega))
theorem put_4 (σ : St) (p r : Int) : fPut σ p r 4 = ups σ 4 p (σ 5 p 0) 0 4 := by
  unfold fPut
  funext a b
  rw [ups_t _ (by decide), ups_t _ (by decide), ups_t _ (by decide), ups_s, ups_s, fCopy_o _ _ _ (by decide) (by decide) (by decide)]
theorem put_5 (σ : St) (p r : Int) : fPut σ p r 5 = ups σ 5 p 0 (σ 5 p 0 + 1) 5 := by
  unfold fPut
  funext a b
  rw [ups_t _ (by decide), ups_s, ups_s, ups_t _ (by decide), ups_t _ (by decide), fCopy_o _ _ _ (by decide) (by decide) (by decide)]
theorem put_7 (σ : St) (p r : Int) : fPut σ p r 7 = ups σ 7 p (σ 5 p 0) r 7 := by
  unfold fPut
  funext a b
  rw [ups_t _ (by decide), ups_t _ (by decide), ups_s, ups_s, ups_t _ (by decide), fCopy_o _ _ _ (by decide) (by decide) (by decide)]
theorem put_24 (σ : St) (p r : Int) : fPut σ p r 24 = ups σ 24 p 0 (σ 5 p 0 + 1) 24 := by
  unfold fPut
  funext a b
  rw [ups_s, ups_s, ups_t _ (by decide), ups_t _ (by decide), ups_t _ (by decide), fCopy_o _ _ _ (by decide) (by decide) (by decide)]
theorem put_H {σ : St} (hH : IvH σ) (p r : Int) : IvH (fPut σ p r) := by
  intro q x a b c d
  rw [put_4, ups_s]
  split
  · omega
  · exact hH q x a b c d
theorem put_L {σ : St} (hL : IvL σ) {p r : Int} (hr : 0 ≤ r ∧ r < 8) (hr2 : r < σ 26 0 0) : IvL (fPut σ p r) := by
  intro q a b
  obtain ⟨c1, c2⟩ := hL q a b
  rw [put_7, ups_s, at1 (fPut_T σ p r) (by decide), at1 (fPut_T σ p r) (by decide)]
  split
  · exact ⟨hr, fun _ => hr2⟩
  · exact ⟨c1, c2⟩
theorem Inv_fPut {N M : Int} {σ : St} {p r : Int} (h : Inv N M σ) (hp : 0 ≤ p ∧ p < 6) (hr : 0 ≤ r ∧ r < 8) (hr2 : r < σ 26 0 0) (hh : 0 ≤ σ 5 p 0 ∧ σ 5 p 0 < 4) : Inv N M (fPut σ p r) := by
  have hT : ∀ t, t ∉ [1, 2, 3, 4, 5, 7, 24] → (fPut σ p r) t = σ t := fPut_T σ p r
  refine ⟨?_, ?_, ?_, ?_, ?_, ?_, ?_, ?_, ?_, ?_, ?_, ?_, ?_, ?_, ?_⟩
  · exact IvA_c (fr hT (by decide)) h.A
  · exact put_R h.R hp hr hh
  · exact put_H h.H p r
  · intro q a b
    obtain ⟨c1, c2⟩ := h.D q a b
    rw [put_5, put_24, ups_s, ups_s, at1 (fPut_T σ p r) (by decide)]
    split
    · exact ⟨by omega, fun _ => ⟨by omega, rfl⟩⟩
    · exact ⟨c1, c2⟩
  · exact IvS_c (fr hT (by decide)) h.S
  · exact IvC_c (fr hT (by decide)) h.C
  · exact IvT_c (fr hT (by decide)) h.T
  · exact IvU_c (fr hT (by decide)) h.U
  · exact put_L h.L hr hr2
  · exact IvK_c (fr hT (by decide)) h.K
  · exact IvW_c (fr hT (by decide)) h.W
  · exact IvM_c (fr hT (by decide)) h.M
  · exact IvQ_c (fr hT (by decide)) h.Q
  · exact IvO_c (fr hT (by decide)) h.O
  · exact IvV_c (fr hT (by decide)) h.V
theorem Inv_fBegP {N M : Int} {σ : St} {p r : Int} (h : Inv N M σ) (hp : 0 ≤ p ∧ p < 6) (hr : 0 ≤ r ∧ r < 8) (hr2 : r < σ 26 0 0) : Inv N M (fBegP σ p r) := by
  have hT : ∀ t, t ∉ [1, 2, 3, 4, 5, 7, 24] → (fBegP σ p r) t = σ t := fBegP_T σ p r
  refine ⟨?_, ?_, ?_, ?_, ?_, ?_, ?_, ?_, ?_, ?_, ?_, ?_, ?_, ?_, ?_⟩
  · exact IvA_c (fr hT (by decide)) h.A
  · exact put_R (IvR_c (fr (ups_T σ 5 p 0 0) (by decide)) h.R) hp hr (by rw [ups_eq]; omega)
  · exact put_H (IvH_c (fr (ups_T σ 5 p 0 0) (by decide)) h.H) p r
  · intro q a b
    obtain ⟨c1, c2⟩ := h.D q a b
    rw [at1 (fBegP_T σ p r) (t := 6) (by decide)]
    unfold fBegP
    rw [put_5, put_24, ups_eq]
    by_cases hq : q = p
    · subst hq
      rw [ups_eq, ups_eq]
      exact ⟨by omega, fun _ => ⟨by omega, rfl⟩⟩
    · rw [ups_i _ _ _ hq, ups_i _ _ _ hq, ups_i _ _ _ hq, ups_i _ _ _ hq]
      exact ⟨c1, c2⟩
  · exact IvS_c (fr hT (by decide)) h.S
  · exact IvC_c (fr hT (by decide)) h.C
  · exact IvT_c (fr hT (by decide)) h.T
  · exact IvU_c (fr hT (by decide)) h.U
  · exact put_L (IvL_c (fr (ups_T σ 5 p 0 0) (by decide)) h.L) hr (by rw [ups_t _ (by decide)]; exact hr2)
  · exact IvK_c (fr hT (by decide)) h.K
  · exact IvW_c (fr hT (by decide)) h.W
  · exact IvM_c (fr hT (by decide)) h.M
  · exact IvQ_c (fr hT (by decide)) h.Q
  · exact IvO_c (fr hT (by decide)) h.O
  · exact IvV_c (fr hT (by decide)) h.V
theorem Inv_fPutG {N M : Int} {σ : St} {p r : Int} (h : Inv N M σ) (hp : 0 ≤ p ∧ p < 6) (hr : 0 ≤ r ∧ r < 8) (hr2 : r < σ 26 0 0) : Inv N M (fPutG σ p r) := by
  unfold fPutG
  split
  · exact Inv_fPut h hp hr hr2 ⟨(h.D p hp.1 hp.2).1.1, by assumption⟩
  · exact h
theorem wouldB_iff (σ : St) (k n v : Int) : wouldB σ k n v = true ↔ σ 22 v 0 = k ∧ (σ 19 v n = 0 ∨ σ 21 v n ≠ 0) := by
  unfold wouldB
  exact decide_eq_true_iff
theorem seeP_V {N : Int} {σ : St} (hV : IvV N σ) (k n i : Int) : IvV N (seeP σ k n i) := by
  intro v a b
  obtain ⟨c1, c2⟩ := hV v a b
  rw [at1 (seeP_T σ k n i) (by decide), at1 (seeP_T σ k n i) (by decide)]
  refine ⟨c1, fun s d1 d2 => ?_⟩
  have q := c2 s d1 d2
  rw [at1 (seeP_T σ k n i) (by decide) v s (t := 20)]
  unfold seeP
  by_cases hx : s = n ∧ 0 ≤ v ∧ v < i ∧ wouldB σ k n v = true
  · obtain ⟨rfl, x1, x2, x3⟩ := hx
    have x4 := ((wouldB_iff σ k s v).mp x3).2
    rw [if_pos ⟨Or.inl rfl, rfl, x1, x2, x3⟩, if_pos rfl, if_pos ⟨Or.inr rfl, rfl, x1, x2, x3⟩, if_neg (by decide)]
    omega
  · rw [if_neg (fun z => hx z.2), if_neg (fun z => hx z.2)]
    exact q
theorem Inv_fShow {N M : Int} {σ : St} {k n : Int} (h : Inv N M σ) (hn : 0 ≤ n ∧ n ≤ 99) : Inv N M (fShow σ k n) := by
  unfold fShow
  split
  · exact h
  · refine Inv_o30 ?_
    have hT : ∀ t, t ∉ [15, 19, 21] → ups (seeP σ k n (σ 28 0 0)) 15 k 0 n t = σ t := com (wid (seeP_T σ k n _) (by decide)) (upsW _ 15 _ _ _ (by decide))
    refine ⟨IvA_c (fr hT (by decide)) h.A, IvR_c (fr hT (by decide)) h.R, IvH_c (fr hT (by decide)) h.H, IvD_c (fr hT (by decide)) h.D, IvS_c (fr hT (by decide)) h.S, IvC_c (fr hT (by decide)) h.C, IvT_c (fr hT (by decide)) h.T, IvU_c (fr hT (by decide)) h.U, IvL_c (fr hT (by decide)) h.L, ?_, IvW_c (fr hT (by decide)) h.W, IvM_c (fr hT (by decide)) h.M, IvQ_c (fr hT (by decide)) h.Q, IvO_c (fr hT (by decide)) h.O, ?_⟩
    · intro x a b
      obtain ⟨c1, c2, c3, c4, c5, c6, c7, c8⟩ := h.K x a b
      rw [at1 hT (by decide), at1 hT (by decide), at1 hT (by decide), at1 hT (by decide), ups_s, at1 (seeP_T σ k n _) (by decide)]
      exact ⟨c1, c2, c3, c4, c5, c6, by split <;> omega, c8⟩
    · exact IvV_c (fr (ups_T _ 15 k 0 n) (by decide)) (seeP_V h.V k n _)
theorem Inv_fPass {N M : Int} {σ : St} {d : Int} (h : Inv N M σ) (hd : 0 ≤ d ∧ d < 6) : Inv N M (fPass σ d) := by
  have hT : ∀ t, t ∉ [11, 16, 17, 18, 25] → (fPass σ d) t = σ t := fPass_T σ d
  have hc : (σ 17 (6 + d) 0 = 0 ∧ fPass σ d = ups σ 18 d 0 (-1)) ∨ (σ 17 (6 + d) 0 ≠ 0 ∧ fPass σ d = ups (ups (ups (rAt σ (6 + d) 0) 18 d 0 (σ 16 (6 + d) 0)) 11 (σ 16 (6 + d) 0) 0 (-1)) 25 (σ 16 (6 + d) 0) 0 (-1)) := by
    by_cases c : σ 17 (6 + d) 0 = 0
    · exact Or.inl ⟨c, by unfold fPass; rw [if_pos c]⟩
    · exact Or.inr ⟨c, by unfold fPass; rw [if_neg c]⟩
  have hsz := (h.W (6 + d) (by omega) (by omega)).1
  have hfirst : σ 17 (6 + d) 0 ≠ 0 → σ 6 (σ 16 (6 + d) 0) 0 = 1 ∧ σ 11 (σ 16 (6 + d) 0) 0 = d := fun c => by
    have y5 := (h.W (6 + d) (by omega) (by omega)).2.1 0 (by omega) (by omega)
    exact (h.Q d _ hd.1 hd.2 y5.1 (by omega)).mp ⟨0, by omega, by omega, rfl⟩
  have v11 : ∀ q j : Int, fPass σ d 11 q 0 = if σ 17 (6 + d) 0 ≠ 0 ∧ q = σ 16 (6 + d) 0 then -1 else σ 11 q 0 := fun q j => by
    rcases hc with ⟨c, e⟩ | ⟨c, e⟩
    · rw [e, ups_t _ (by decide), if_neg (fun y => y.1 c)]
    · rw [e, ups_t _ (by decide), ups_s, ups_t _ (by decide), rAt_o _ _ _ (by decide) (by decide)]
      by_cases hq : q = σ 16 (6 + d) 0
      · rw [if_pos ⟨hq, rfl⟩, if_pos ⟨c, hq⟩]
      · rw [if_neg (fun y => hq y.1), if_neg (fun y => hq y.2)]
  have v11 := fun q : Int => v11 q 0
  have v25 : ∀ q : Int, fPass σ d 25 q 0 = if σ 17 (6 + d) 0 ≠ 0 ∧ q = σ 16 (6 + d) 0 then -1 else σ 25 q 0 := fun q => by
    rcases hc with ⟨c, e⟩ | ⟨c, e⟩
    · rw [e, ups_t _ (by decide), if_neg (fun y => y.1 c)]
    · rw [e, ups_s, ups_t _ (by decide), ups_t _ (by decide), rAt_o _ _ _ (by decide) (by decide)]
      by_cases hq : q = σ 16 (6 + d) 0
      · rw [if_pos ⟨hq, rfl⟩, if_pos ⟨c, hq⟩]
      · rw [if_neg (fun y => hq y.1), if_neg (fun y => hq y.2)]
  have v18 : ∀ x : Int, fPass σ d 18 x 0 = if σ 17 (6 + d) 0 = 0 ∧ x = d then -1 else if x = d then σ 16 (6 + d) 0 else σ 18 x 0 := fun x => by
    rcases hc with ⟨c, e⟩ | ⟨c, e⟩
    · rw [e, ups_s]
      by_cases hx : x = d
      · rw [if_pos ⟨hx, rfl⟩, if_pos ⟨c, hx⟩]
      · rw [if_neg (fun y => hx y.1), if_neg (fun y => hx y.2), if_neg hx]
    · rw [e, ups_t _ (by decide), ups_t _ (by decide), ups_s, rAt_o _ _ _ (by decide) (by decide)]
      by_cases hx : x = d
      · rw [if_pos ⟨hx, rfl⟩, if_neg (fun y => c y.1), if_pos hx]
      · rw [if_neg (fun y => hx y.1), if_neg (fun y => c y.1), if_neg hx]
  have hheld : ∀ p : Int, held (fPass σ d) p = held (ups σ 18 d 0 (fPass σ d 18 d 0)) p := fun p => by
    unfold held
    refine cN_cong (fun j _ _ => ?_)
    rw [ups_s]
    by_cases hj : j = d
    · subst hj; rw [if_pos ⟨rfl, rfl⟩]
    · rw [if_neg (fun y => hj y.1), v18 j, if_neg (fun y => hj y.2), if_neg hj]
  have hmem : ∀ w q : Int, mem (fPass σ d) w q ↔ mem σ w q ∧ ¬ (σ 17 (6 + d) 0 ≠ 0 ∧ w = 6 + d ∧ q = σ 16 (6 + d) 0) := fun w q => by
    rcases hc with ⟨c, e⟩ | ⟨c, e⟩
    · rw [e, mem_T (σ := σ) (ups_T _ _ _ _ _ _ (by decide)) (ups_T _ _ _ _ _ _ (by decide))]
      exact ⟨fun y => ⟨y, fun t => t.1 c⟩, fun y => y.1⟩
    · have hT2 : ∀ t, t ∉ [11, 18, 25] → fPass σ d t = rAt σ (6 + d) 0 t := by rw [e]; exact com (com (upsW _ 18 _ _ _ (by decide)) (upsW _ 11 _ _ _ (by decide))) (upsW _ 25 _ _ _ (by decide))
      rw [mem_T (hT2 16 (by decide)) (hT2 17 (by decide)), mem_rAt ⟨Int.le_refl _, by omega⟩ (h.W (6 + d) (by omega) (by omega)).2.2]
      exact ⟨fun y => ⟨y.1, fun t => y.2 t.2⟩, fun y => ⟨y.1, fun t => y.2 ⟨c, t⟩⟩⟩
  refine ⟨?_, ?_, ?_, ?_, ?_, ?_, ?_, ?_, ?_, ?_, ?_, ?_, ?_, ?_, ?_⟩
  · exact IvA_c (fr hT (by decide)) h.A
  · exact IvR_c (fr hT (by decide)) h.R
  · exact IvH_c (fr hT (by decide)) h.H
  · exact IvD_c (fr hT (by decide)) h.D
  · exact IvS_c (fr hT (by decide)) h.S
  · exact IvC_c (fr hT (by decide)) h.C
  · exact IvT_c (fr hT (by decide)) h.T
  · intro p a b
    have q := h.U p a b
    rw [at1 (fPass_T σ d) (t := 6) (by decide)]
    rw [v11, v25]
    split <;> (refine ⟨by omega, by omega, fun _ => by first | rfl | (exact q.2.2 (by assumption))⟩)
  · exact IvL_c (fr hT (by decide)) h.L
  · exact IvK_c (fr hT (by decide)) h.K
  · rcases hc with ⟨c, e⟩ | ⟨c, e⟩
    · exact IvW_c (fr (by rw [e]; exact ups_T _ _ _ _ _) (by decide)) h.W
    · exact IvW_c (σ := rAt σ (6 + d) 0) (fr (T := [11, 18, 25]) (by rw [e]; exact com (com (upsW _ 18 _ _ _ (by decide)) (upsW _ 11 _ _ _ (by decide))) (upsW _ 25 _ _ _ (by decide))) (by decide)) (IvW_rAt h.W ⟨Int.le_refl _, by omega⟩)
  · intro w q a b a2 b2
    rw [hmem w q, at1 (fPass_T σ d) (by decide)]
    constructor
    · exact fun z => (h.M w q a b a2 b2).mp z.1
    · exact fun z => ⟨(h.M w q a b a2 b2).mpr z, fun y => by omega⟩
  · intro x q a b a2 b2
    rw [hmem (6 + x) q, at1 (fPass_T σ d) (by decide), v11]
    have z := h.Q x q a b a2 b2
    rcases hc with ⟨c, e⟩ | ⟨c, e⟩
    · rw [if_neg (fun y => absurd y.1 (by omega))]
      exact ⟨fun y => z.mp y.1, fun y => ⟨z.mpr y, fun t => absurd t.1 (by omega)⟩⟩
    · by_cases hq : q = σ 16 (6 + d) 0
      · rw [if_pos ⟨c, hq⟩]
        constructor
        · rintro ⟨y1, y2⟩
          have y3 := (z.mp y1).2
          have y4 := hfirst c
          rw [← hq] at y4
          exact absurd ⟨c, by omega, hq⟩ y2
        · rintro ⟨-, y⟩
          omega
      · rw [if_neg (fun y => hq y.2)]
        exact ⟨fun y => z.mp y.1, fun y => ⟨z.mpr y, fun t => hq t.2.2⟩⟩
  · refine ⟨fun x a b => ?_, fun p a b hs => ?_⟩
    · rw [v18]
      obtain ⟨c1, c2⟩ := h.O.1 x a b
      split
      · next y =>
        rw [at1 (fPass_T σ d) (by decide)]
        exact ⟨by omega, fun z => absurd rfl z⟩
      · split
        · next y1 y2 =>
          have y4 := hfirst (fun y => y1 ⟨y, y2⟩)
          have y5 := (h.W (6 + d) (by omega) (by omega)).2.1 0 (by omega) (by omega)
          rw [at1 (fPass_T σ d) (by decide)]
          exact ⟨by omega, fun _ => y4.1⟩
        · rw [at1 (fPass_T σ d) (by decide)]
          exact ⟨c1, c2⟩
    · rw [at1 (fPass_T σ d) (by decide)] at hs
      obtain ⟨c1, c2⟩ := h.O.2 p a b hs
      have hh := held_ups σ hd (q := fPass σ d 18 d 0) p
      rw [← hheld] at hh
      rw [v11]
      rcases hc with ⟨c, e⟩ | ⟨c, e⟩
      · rw [if_neg (fun y => absurd y.1 (by omega))]
        have v : fPass σ d 18 d 0 = -1 := by rw [v18, if_pos ⟨c, rfl⟩]
        rw [v] at hh
        have hle : held (fPass σ d) p ≤ held σ p := by split at hh <;> split at hh <;> omega
        refine ⟨by omega, fun y => ?_⟩
        obtain ⟨c3, c4⟩ := c2 y
        refine ⟨by omega, ?_⟩
        rw [v18]
        split
        · omega
        · rw [if_neg (by omega)]; exact c4
      · have y4 := hfirst c
        have v : fPass σ d 18 d 0 = σ 16 (6 + d) 0 := by rw [v18, if_neg (fun y => c y.1), if_pos rfl]
        rw [v] at hh
        by_cases hp : p = σ 16 (6 + d) 0
        · rw [if_pos ⟨c, hp⟩]
          obtain ⟨c3, c4⟩ := c2 (by rw [hp, y4.2]; omega)
          have : held (fPass σ d) p ≤ held σ p + 1 := by split at hh <;> split at hh <;> omega
          exact ⟨by omega, fun y => absurd rfl y⟩
        · rw [if_neg (fun y => hp y.2)]
          have hle : held (fPass σ d) p ≤ held σ p := by split at hh <;> split at hh <;> omega
          refine ⟨by omega, fun y => ?_⟩
          obtain ⟨c3, c4⟩ := c2 y
          refine ⟨by omega, ?_⟩
          rw [v18]
          rw [if_neg (fun z => c z.1)]
          split
          · exact fun z => hp z.symm
          · exact c4
  · exact IvV_c (fr hT (by decide)) h.V
theorem Inv_take {N M : Int} {σ : St} {p d : Int} (h : Inv N M σ) (hp : 0 ≤ p ∧ p < 6) (hd : 0 ≤ d ∧ d < 6) (hs : σ 6 p 0 = 1) (ha : σ 11 p 0 = -1) (hh : ¬ 3 ≤ held σ p) (ho : σ 18 d 0 = -1) : Inv N M (ups σ 18 d 0 p) := by
  have hT : ∀ t, t ∉ [18] → ups σ 18 d 0 p t = σ t := ups_T _ _ _ _ _
  refine ⟨IvA_c (fr hT (by decide)) h.A, IvR_c (fr hT (by decide)) h.R, IvH_c (fr hT (by decide)) h.H, IvD_c (fr hT (by decide)) h.D, IvS_c (fr hT (by decide)) h.S, IvC_c (fr hT (by decide)) h.C, IvT_c (fr hT (by decide)) h.T, IvU_c (fr hT (by decide)) h.U, IvL_c (fr hT (by decide)) h.L, IvK_c (fr hT (by decide)) h.K, IvW_c (fr hT (by decide)) h.W, IvM_c (fr hT (by decide)) h.M, IvQ_c (fr hT (by decide)) h.Q, ?_, IvV_c (fr hT (by decide)) h.V⟩
  refine ⟨fun x a b => ?_, fun q a b hq => ?_⟩
  · obtain ⟨c1, c2⟩ := h.O.1 x a b
    rw [ups_s, ups_t _ (by decide)]
    split
    · exact ⟨by omega, fun _ => hs⟩
    · exact ⟨c1, c2⟩
  · rw [ups_t _ (by decide)] at hq ⊢
    obtain ⟨c1, c2⟩ := h.O.2 q a b hq
    have := held_ups σ hd (q := p) q
    rw [ho, if_neg (show ¬ ((-1 : Int) = q) by omega)] at this
    by_cases hqp : p = q
    · subst hqp
      rw [if_pos rfl] at this
      exact ⟨by omega, fun z => absurd ha z⟩
    · rw [if_neg hqp] at this
      refine ⟨by omega, fun z => ?_⟩
      obtain ⟨c3, c4⟩ := c2 z
      refine ⟨by omega, ?_⟩
      rw [ups_s]
      split
      · exact hqp
      · exact c4
theorem Inv_wait {N M : Int} {σ : St} {p d : Int} (h : Inv N M σ) (hp : 0 ≤ p ∧ p < 6) (hd : 0 ≤ d ∧ d < 6) (hs : σ 6 p 0 = 1) (ha : σ 11 p 0 = -1) (hh : ¬ 3 ≤ held σ p) (ho : σ 18 d 0 ≠ p) : Inv N M (ups (ups (aLast σ (6 + d) p) 11 p 0 d) 25 p 0 d) := by
  have hT : ∀ t, t ∉ [11, 16, 17, 25] → (ups (ups (aLast σ (6 + d) p) 11 p 0 d) 25 p 0 d) t = σ t := com (com (wid (aLast_T σ _ _) (by decide)) (upsW _ 11 _ _ _ (by decide))) (upsW _ 25 _ _ _ (by decide))
  have hT2 : ∀ t, t ∉ [11, 25] → ups (ups (aLast σ (6 + d) p) 11 p 0 d) 25 p 0 d t = aLast σ (6 + d) p t := com (upsW _ 11 _ _ _ (by decide)) (upsW _ 25 _ _ _ (by decide))
  have hsz := (h.W (6 + d) (by omega) (by omega)).1
  have hno : ¬ mem σ (6 + d) p := fun z => by have := ((h.Q d p hd.1 hd.2 hp.1 hp.2).mp z).2; omega
  have hmem : ∀ w q : Int, mem (ups (ups (aLast σ (6 + d) p) 11 p 0 d) 25 p 0 d) w q ↔ mem σ w q ∨ (w = 6 + d ∧ q = p) := fun w q => by
    rw [mem_T (hT2 16 (by decide)) (hT2 17 (by decide)), mem_aLast hsz.1]
  have v11 : ∀ q : Int, ups (ups (aLast σ (6 + d) p) 11 p 0 d) 25 p 0 d 11 q 0 = if q = p then d else σ 11 q 0 := fun q => by
    rw [ups_t _ (by decide), ups_s, aLast_o _ _ _ (by decide) (by decide)]
    simp
  refine ⟨?_, ?_, ?_, ?_, ?_, ?_, ?_, ?_, ?_, ?_, ?_, ?_, ?_, ?_, ?_⟩
  · exact IvA_c (fr hT (by decide)) h.A
  · exact IvR_c (fr hT (by decide)) h.R
  · exact IvH_c (fr hT (by decide)) h.H
  · exact IvD_c (fr hT (by decide)) h.D
  · exact IvS_c (fr hT (by decide)) h.S
  · exact IvC_c (fr hT (by decide)) h.C
  · exact IvT_c (fr hT (by decide)) h.T
  · intro q a b
    have z := h.U q a b
    rw [at1 hT (t := 6) (by decide), v11, ups_s, ups_t _ (by decide), aLast_o _ _ _ (by decide) (by decide)]
    by_cases hq : q = p
    · subst hq; rw [if_pos rfl, if_pos ⟨rfl, rfl⟩]; exact ⟨by omega, by omega, fun _ => rfl⟩
    · rw [if_neg hq, if_neg (fun y => hq y.1)]; exact z
  · exact IvL_c (fr hT (by decide)) h.L
  · exact IvK_c (fr hT (by decide)) h.K
  · exact IvW_c (σ := aLast σ (6 + d) p) (fr (T := [11, 25]) hT2 (by decide)) (IvW_aLast h.W (by omega) (room h.W (by omega) (by omega) hno) hno)
  · intro w q a b a2 b2
    rw [hmem, at1 hT (by decide)]
    have z := h.M w q a b a2 b2
    exact ⟨fun y => z.mp (y.resolve_right (fun t => by omega)), fun y => Or.inl (z.mpr y)⟩
  · intro x q a b a2 b2
    rw [hmem, at1 hT (by decide), v11]
    have z := h.Q x q a b a2 b2
    by_cases hq : q = p
    · subst hq
      rw [if_pos rfl]
      constructor
      · rintro (y | y)
        · have := (z.mp y).2; omega
        · exact ⟨hs, by omega⟩
      · rintro ⟨-, y⟩
        exact Or.inr ⟨by omega, rfl⟩
    · rw [if_neg hq]
      exact ⟨fun y => z.mp (y.resolve_right (fun t => hq t.2)), fun y => Or.inl (z.mpr y)⟩
  · refine ⟨fun x a b => ?_, fun q a b hq => ?_⟩
    · rw [at1 hT (by decide), at1 hT (by decide)]
      exact h.O.1 x a b
    · rw [at1 hT (by decide)] at hq
      obtain ⟨c1, c2⟩ := h.O.2 q a b hq
      rw [held_T (hT 18 (by decide)), v11, hT 18 (by decide)]
      by_cases hqp : q = p
      · subst hqp
        rw [if_pos rfl]
        exact ⟨c1, fun _ => ⟨by omega, ho⟩⟩
      · rw [if_neg hqp]
        exact ⟨c1, c2⟩
  · exact IvV_c (fr hT (by decide)) h.V
theorem Inv_fLease {N M : Int} {σ : St} {p d : Int} (h : Inv N M σ) (hp : 0 ≤ p ∧ p < 6) (hd : 0 ≤ d ∧ d < 6) (hs : σ 6 p 0 = 1) (ha : σ 11 p 0 = -1) : Inv N M (fLease σ p d) := by
  unfold fLease
  split
  · exact h
  · next z =>
    split
    · next y => exact Inv_take h hp hd hs ha (fun t => z (Or.inr t)) y
    · exact Inv_wait h hp hd hs ha (fun t => z (Or.inr t)) (fun t => z (Or.inl t))
theorem Inv_fObey {N M : Int} {σ : St} {p k n : Int} (h : Inv N M σ) (hp : 0 ≤ p ∧ p < 6) (hs : σ 6 p 0 = 1) (ha : σ 11 p 0 = -1) (hk : okL k n) : Inv N M (fObey σ p k n) := by
  unfold okL at hk
  unfold fObey
  split
  · exact Inv_fShow h (by omega)
  split
  · exact Inv_o10 h (by omega)
  split
  · exact Inv_fLease h hp (by omega) hs ha
  split
  · split
    · exact Inv_fPass h (by omega)
    · exact h
  split
  · split
    · exact Inv_fPutG h hp (by omega) (by assumption)
    · exact h
  split
  · exact Inv_o9 h (by omega)
  · unfold fBranch
    split
    · have := h.C p hp.1 hp.2
      exact Inv_o9 h (by omega)
    · split
      · exact Inv_o4 h (by omega)
      · exact h
theorem Inv_fDo {N M : Int} {σ : St} {p : Int} (h : Inv N M σ) (hp : 0 ≤ p ∧ p < 6) (hs : σ 6 p 0 = 1) (ha : σ 11 p 0 = -1) : Inv N M (fDo σ p) := by
  obtain ⟨d1, d2⟩ := h.D p hp.1 hp.2
  obtain ⟨l1, l2⟩ := h.L p hp.1 hp.2
  have d3 := d2 hs
  unfold fDo
  split
  · exact Inv_fBegP h hp l1 (l2 hs)
  · next hz =>
    have hz : ¬ σ 3 (8 + 4 * p + (σ 5 p 0 - 1)) 0 ≤ σ 4 p (σ 5 p 0 - 1) := hz
    obtain ⟨r1, r2⟩ := h.R (8 + 4 * p + (σ 5 p 0 - 1)) (by omega) (by omega)
    have q := h.H p (σ 5 p 0 - 1) hp.1 hp.2 (by omega) (by omega)
    have hT : ∀ t, t ∉ [4] → fStep σ p t = σ t := ups_T _ _ _ _ _
    refine Inv_fObey (Inv_o4 h (by omega)) hp ?_ ?_ ((r2 _ q.1 (by omega)).2 (by omega))
    · rw [at1 hT (by decide)]; exact hs
    · rw [at1 hT (by decide)]; exact ha
theorem Inv_fLine {N M : Int} {σ : St} {p : Int} (h : Inv N M σ) (hp : 0 ≤ p ∧ p < 6) (hs : σ 6 p 0 = 1) (ha : σ 11 p 0 = -1) : Inv N M (fLine σ p) :=
  Inv_fDo (Inv_fHead h) hp (by rw [at1 (fHead_T σ p) (by decide)]; exact hs) (by rw [at1 (fHead_T σ p) (by decide)]; exact ha)
theorem fObey_11 {N M : Int} {σ : St} {p k n : Int} (h : Inv N M σ) (hp : 0 ≤ p ∧ p < 6) (ha : σ 11 p 0 = -1) (hk : okL k n) (ho : oObey σ p k n = 0) : fObey σ p k n 11 p 0 = -1 := by
  unfold okL at hk
  unfold oObey at ho
  unfold fObey
  split
  · rw [at1 (fShow_T σ _ n) (by decide)]; exact ha
  split
  · rw [ups_t _ (by decide)]; exact ha
  split
  · next z1 z2 z3 =>
    rw [if_neg z1, if_neg z2, if_pos z3] at ho
    unfold oLease at ho
    unfold fLease
    split
    · exact ha
    · next y1 =>
      rw [if_neg y1] at ho
      split
      · rw [ups_t _ (by decide)]; exact ha
      · next y2 => rw [if_neg y2] at ho; exact absurd ho (by decide)
  split
  · split
    · next z1 z2 z3 z4 z5 =>
      unfold fPass
      split
      · rw [ups_t _ (by decide)]; exact ha
      · rw [ups_t _ (by decide), ups_s, ups_t _ (by decide), rAt_o _ _ _ (by decide) (by decide)]
        split
        · rfl
        · exact ha
    · exact ha
  split
  · split
    · rw [at1 (fPutG_T σ p n) (by decide)]; exact ha
    · exact ha
  split
  · rw [ups_t _ (by decide)]; exact ha
  · rw [at1 (fBranch_T σ p k n) (by decide)]; exact ha
theorem fLine_11 {N M : Int} {σ : St} {p : Int} (h : Inv N M σ) (hp : 0 ≤ p ∧ p < 6) (hs : σ 6 p 0 = 1) (ha : σ 11 p 0 = -1) (ho : oLine σ p = 0) : fLine σ p 11 p 0 = -1 := by
  have h2 : Inv N M (fHead σ p) := Inv_fHead h
  have hs2 : fHead σ p 6 p 0 = 1 := by rw [at1 (fHead_T σ p) (by decide)]; exact hs
  have ha2 : fHead σ p 11 p 0 = -1 := by rw [at1 (fHead_T σ p) (by decide)]; exact ha
  unfold oLine at ho
  unfold fLine
  generalize fHead σ p = τ at h2 hs2 ha2 ho ⊢
  obtain ⟨d1, d2⟩ := h2.D p hp.1 hp.2
  have d3 := d2 hs2
  unfold oDo at ho
  unfold fDo
  split
  · rw [at1 (fBegP_T τ p _) (by decide)]; exact ha2
  · next hz =>
    rw [if_neg hz] at ho
    have hz : ¬ τ 3 (8 + 4 * p + (τ 5 p 0 - 1)) 0 ≤ τ 4 p (τ 5 p 0 - 1) := hz
    obtain ⟨r1, r2⟩ := h2.R (8 + 4 * p + (τ 5 p 0 - 1)) (by omega) (by omega)
    have q := h2.H p (τ 5 p 0 - 1) hp.1 hp.2 (by omega) (by omega)
    exact fObey_11 (Inv_o4 h2 (by omega)) hp (by unfold fStep; rw [ups_t _ (by decide)]; exact ha2) ((r2 _ q.1 (by omega)).2 (by omega)) ho
theorem Inv_fLines {N M : Int} {p : Int} (hp : 0 ≤ p ∧ p < 6) : ∀ (n : Nat) {σ : St}, Inv N M σ → σ 6 p 0 = 1 → σ 11 p 0 = -1 → Inv N M (fLines n σ p)
  | 0, _, h, _, _ => h
  | n + 1, σ, h, hs, ha => by
    rw [fLines]
    split
    · next z => exact Inv_fLines hp n (Inv_fLine h hp hs ha) (by rw [at1 (fLine_T σ p) (by decide)]; exact hs) (fLine_11 h hp hs ha z)
    · exact Inv_fLine h hp hs ha
theorem Inv_fTurn {N M : Int} {σ : St} {p : Int} (h : Inv N M σ) (hp : 0 ≤ p ∧ p < 6) (hs : σ 6 p 0 = 1) : Inv N M (fTurn σ p) := by
  unfold fTurn
  split
  · have := h.T p hp.1 hp.2
    exact Inv_o10 h (by omega)
  split
  · exact h
  · next z => exact Inv_fLines hp 8 h hs (Classical.not_not.mp z)
end MATH5
