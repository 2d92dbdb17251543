section LMATH4
-- lines put in
theorem fIns_row (σ : St) {a i : Int} (h : i ≠ a) (x k n : Int) (t : Nat) (j : Int) : fIns σ a x k n t i j = σ t i j := by
  unfold fIns
  rw [ups_i _ _ _ h, ups_i _ _ _ h, ups_i _ _ _ h]
  unfold insP
  rw [if_neg (by omega)]
theorem fIns_3 (σ : St) (a x k n : Int) : fIns σ a x k n 3 a 0 = σ 3 a 0 + 1 := by
  unfold fIns
  rw [ups_eq]
theorem fIns_1 (σ : St) (a x k n j : Int) : fIns σ a x k n 1 a j = if j = x then k else if x < j ∧ j ≤ σ 3 a 0 then σ 1 a (j - 1) else σ 1 a j := by
  unfold fIns
  rw [ups_t _ (by decide), ups_t _ (by decide)]
  by_cases h : j = x
  · rw [if_pos h, h, ups_eq]
  · rw [if_neg h, ups_j _ _ _ h]
    unfold insP
    by_cases h2 : x < j ∧ j ≤ σ 3 a 0
    · rw [if_pos h2, if_pos ⟨Or.inl rfl, rfl, h2.1, h2.2⟩]
    · rw [if_neg h2, if_neg (fun z => h2 z.2.2)]
theorem fIns_2 (σ : St) (a x k n j : Int) : fIns σ a x k n 2 a j = if j = x then n else if x < j ∧ j ≤ σ 3 a 0 then σ 2 a (j - 1) else σ 2 a j := by
  unfold fIns
  rw [ups_t _ (by decide)]
  by_cases h : j = x
  · rw [if_pos h, h, ups_eq]
  · rw [if_neg h, ups_j _ _ _ h, ups_t _ (by decide)]
    unfold insP
    by_cases h2 : x < j ∧ j ≤ σ 3 a 0
    · rw [if_pos h2, if_pos ⟨Or.inr rfl, rfl, h2.1, h2.2⟩]
    · rw [if_neg h2, if_neg (fun z => h2 z.2.2)]
theorem nIns_o {τ : St} {a M x k n i : Int} (hx : x ≤ M) (h0 : 0 ≤ x) (h : i < 50 * a ∨ 50 * a + 2 + 2 * M < i) : nIns τ a M x k n 40 i 0 = τ 40 i 0 := by
  unfold nIns
  rw [ups_i _ _ _ (by omega), ups_i _ _ _ (by omega), ups_i _ _ _ (by omega)]
  unfold nInP
  rw [if_neg (by omega)]
theorem nIns_h (τ : St) (a M x k n : Int) {u : Nat} (h : u ≠ 40) (i j : Int) : nIns τ a M x k n u i j = τ u i j := by
  unfold nIns
  rw [ups_t _ h, ups_t _ h, ups_t _ h, nInP_o _ _ _ _ h]
theorem nIns_0 (τ : St) (a M x k n : Int) : nIns τ a M x k n 40 (50 * a) 0 = M + 1 := by
  unfold nIns
  rw [ups_eq]
theorem nIns_1 (τ : St) {a M x k n j : Int} (hx : 0 ≤ x) (hj : 0 ≤ j) : nIns τ a M x k n 40 (50 * a + 1 + 2 * j) 0 = if j = x then k else if x < j ∧ j ≤ M then τ 40 (50 * a + 1 + 2 * (j - 1)) 0 else τ 40 (50 * a + 1 + 2 * j) 0 := by
  unfold nIns
  rw [ups_i _ _ _ (by omega), ups_i _ _ _ (by omega)]
  by_cases h : j = x
  · rw [if_pos h, h, ups_eq]
  · rw [if_neg h, ups_i _ _ _ (by omega)]
    unfold nInP
    by_cases h2 : x < j ∧ j ≤ M
    · rw [if_pos h2, if_pos (by omega), show 50 * a + 1 + 2 * j - 2 = 50 * a + 1 + 2 * (j - 1) by omega]
    · rw [if_neg h2, if_neg (by omega)]
theorem nIns_2 (τ : St) {a M x k n j : Int} (hx : 0 ≤ x) (hj : 0 ≤ j) : nIns τ a M x k n 40 (50 * a + 2 + 2 * j) 0 = if j = x then n else if x < j ∧ j ≤ M then τ 40 (50 * a + 2 + 2 * (j - 1)) 0 else τ 40 (50 * a + 2 + 2 * j) 0 := by
  unfold nIns
  rw [ups_i _ _ _ (by omega)]
  by_cases h : j = x
  · rw [if_pos h, h, ups_eq]
  · rw [if_neg h, ups_i _ _ _ (by omega), ups_i _ _ _ (by omega)]
    unfold nInP
    by_cases h2 : x < j ∧ j ≤ M
    · rw [if_pos h2, if_pos (by omega), show 50 * a + 2 + 2 * j - 2 = 50 * a + 2 + 2 * (j - 1) by omega]
    · rw [if_neg h2, if_neg (by omega)]
theorem RLs_ins {σ τ : St} (h : RLs σ τ) {a x k n : Int} (ha : 0 ≤ a ∧ a < 3) (hx : 0 ≤ x ∧ x ≤ σ 3 a 0) (h20 : σ 3 a 0 < 20) : RLs (fIns σ a x k n) (nIns τ a (σ 3 a 0) x k n) := by
  intro b b0 b1
  obtain ⟨q0, q1, q2⟩ := h b b0 b1
  by_cases hb : b = a
  · subst hb
    rw [fIns_3]
    refine ⟨by omega, nIns_0 _ _ _ _ _ _, fun j j0 j1 => ?_⟩
    rw [nIns_1 _ hx.1 j0, nIns_2 _ hx.1 j0, fIns_1, fIns_2]
    by_cases c : j = x
    · rw [if_pos c, if_pos c, if_pos c, if_pos c]; exact ⟨rfl, rfl⟩
    · rw [if_neg c, if_neg c, if_neg c, if_neg c]
      by_cases c2 : x < j ∧ j ≤ σ 3 b 0
      · rw [if_pos c2, if_pos c2, if_pos c2, if_pos c2]; exact q2 (j - 1) (by omega) (by omega)
      · rw [if_neg c2, if_neg c2, if_neg c2, if_neg c2]; exact q2 j (by omega) (by omega)
  · rw [fIns_row _ hb]
    refine ⟨q0, by rw [nIns_o hx.2 hx.1 (by omega)]; exact q1, fun j j0 j1 => ?_⟩
    rw [nIns_o hx.2 hx.1 (by omega), nIns_o hx.2 hx.1 (by omega), fIns_row _ hb, fIns_row _ hb]
    exact q2 j j0 j1
theorem RPi_ins {σ τ : St} (h : RPi σ τ) {a x k n M : Int} (ha : 0 ≤ a ∧ a < 3) (hx : 0 ≤ x ∧ x ≤ M) (h20 : M < 20) : RPi (fIns σ a x k n) (nIns τ a M x k n) := by
  have T := fIns_T σ a x k n
  refine ⟨by rw [T 5 (by decide)]; exact h.1, fun d d0 d1 => ?_⟩
  rw [T 5 (by decide)] at d1
  exact RPg_c (h.2 d d0 d1) (fun _ => fIns_row _ (by omega) _ _ _ _ _) (fun _ => fIns_row _ (by omega) _ _ _ _ _) (fIns_row _ (by omega) _ _ _ _ _) (by rw [T 4 (by decide)]) (fun i h1 _ => nIns_o hx.2 hx.1 (by omega))
theorem R0_ins {σ τ : St} (h : R0 σ τ) {a x k n : Int} (ha : 0 ≤ a ∧ a < 3) (hx : 0 ≤ x ∧ x ≤ σ 3 a 0) (h20 : σ 3 a 0 < 20) : R0 (fIns σ a x k n) (nIns τ a (σ 3 a 0) x k n) := by
  obtain ⟨a1, a2, a3, a4, a5, a6, a7, a8⟩ := h
  have T := fIns_T σ a x k n
  exact ⟨RLs_ins a1 ha hx h20, RQ_T a2 (T 26 (by decide)) (T 27 (by decide)) (T 28 (by decide)) (T 12 (by decide)) (T 13 (by decide)), RD_T a3 (T 18 (by decide)) (T 17 (by decide)), by rw [T 6 (by decide)]; exact a4, by rw [T 17 (by decide)]; exact a5, by rw [T 29 (by decide)]; exact a6, by rw [T 30 (by decide)]; exact a7, fun j j0 j1 => by rw [nIns_h _ _ _ _ _ _ (by decide)]; exact a8 j j0 j1⟩
theorem R1_ins {σ τ : St} (h : R1 σ τ) {a x k n : Int} (ha : 0 ≤ a ∧ a < 3) (hx : 0 ≤ x ∧ x ≤ σ 3 a 0) (h20 : σ 3 a 0 < 20) : R1 (fIns σ a x k n) (nIns τ a (σ 3 a 0) x k n) := by
  obtain ⟨a1, a2, a3, a4, a5, a6⟩ := h
  have T := fIns_T σ a x k n
  refine ⟨RLs_ins a1 ha hx h20, RPi_ins a2 ha hx h20, ?_, RQ_T a4 (T 26 (by decide)) (T 27 (by decide)) (T 28 (by decide)) (T 12 (by decide)) (T 13 (by decide)), RD_T a5 (T 18 (by decide)) (T 17 (by decide)), RS_T a6 (T 6 (by decide)) (T 8 (by decide)) (T 11 (by decide)) (T 17 (by decide)) (T 16 (by decide))⟩
  have eo : nIns τ a (σ 3 a 0) x k n 40 1048 0 = τ 40 1048 0 := nIns_o hx.2 hx.1 (by omega)
  have eh : ∀ i : Int, nIns τ a (σ 3 a 0) x k n 41 i 0 = τ 41 i 0 := fun i => nIns_h _ _ _ _ _ _ (by decide) _ _
  unfold RNm
  rw [T 5 (by decide), T 9 (by decide), T 10 (by decide), T 29 (by decide), T 7 (by decide), T 30 (by decide), T 15 (by decide), eo, eh 0, eh 1, eh 2, eh 5, eh 4, eh 3]
  exact a3
-- lines cut
theorem fRem_row (σ : St) {a i : Int} (h : i ≠ a) (x : Int) (t : Nat) (j : Int) : fRem σ a x t i j = σ t i j := by
  unfold fRem
  unfold remP
  rw [if_neg (by omega), ups_i _ _ _ h]
theorem fRem_3 (σ : St) (a x : Int) : fRem σ a x 3 a 0 = σ 3 a 0 - 1 := by
  unfold fRem
  rw [remP_o _ _ _ _ (by decide) (by decide), ups_eq]
theorem fRem_v (σ : St) {a x j : Int} {t : Nat} (ht : t = 1 ∨ t = 2) (h : j < σ 3 a 0 - 1) : fRem σ a x t a j = if x ≤ j then σ t a (j + 1) else σ t a j := by
  have e : ∀ b c : Int, ups σ 3 a 0 (σ 3 a 0 - 1) t b c = σ t b c := fun b c => ups_t _ (by omega) _ _ _ _ _
  unfold fRem
  unfold remP
  by_cases c : x ≤ j
  · rw [if_pos ⟨ht, rfl, c, h⟩, if_pos c, e]
  · rw [if_neg (fun z => c z.2.2.1), if_neg c, e]
theorem nRem_o {τ : St} {a M x i : Int} (hx : 0 ≤ x) (h : i < 50 * a ∨ 50 * a + 1 + 2 * M ≤ i) : (0 ≤ M) → nRem τ a M x 40 i 0 = τ 40 i 0 := fun hM => by
  unfold nRem
  rw [ups_i _ _ _ (by omega)]
  unfold nRmP
  rw [if_neg (by omega)]
theorem nRem_h (τ : St) (a M x : Int) {u : Nat} (h : u ≠ 40) (i j : Int) : nRem τ a M x u i j = τ u i j := by
  unfold nRem
  rw [ups_t _ h, nRmP_o _ _ _ _ h]
theorem nRem_1 (τ : St) {a M x j : Int} (hj : 0 ≤ j) (h : j < M - 1) : nRem τ a M x 40 (50 * a + 1 + 2 * j) 0 = if x ≤ j then τ 40 (50 * a + 1 + 2 * (j + 1)) 0 else τ 40 (50 * a + 1 + 2 * j) 0 := by
  unfold nRem
  rw [ups_i _ _ _ (by omega)]
  unfold nRmP
  by_cases c : x ≤ j
  · rw [if_pos c, if_pos (by omega), show 50 * a + 1 + 2 * j + 2 = 50 * a + 1 + 2 * (j + 1) by omega]
  · rw [if_neg c, if_neg (by omega)]
theorem nRem_2 (τ : St) {a M x j : Int} (hj : 0 ≤ j) (h : j < M - 1) : nRem τ a M x 40 (50 * a + 2 + 2 * j) 0 = if x ≤ j then τ 40 (50 * a + 2 + 2 * (j + 1)) 0 else τ 40 (50 * a + 2 + 2 * j) 0 := by
  unfold nRem
  rw [ups_i _ _ _ (by omega)]
  unfold nRmP
  by_cases c : x ≤ j
  · rw [if_pos c, if_pos (by omega), show 50 * a + 2 + 2 * j + 2 = 50 * a + 2 + 2 * (j + 1) by omega]
  · rw [if_neg c, if_neg (by omega)]
theorem RLs_rem {σ τ : St} (h : RLs σ τ) {a x : Int} (ha : 0 ≤ a ∧ a < 3) (hx : 0 ≤ x ∧ x < σ 3 a 0) : RLs (fRem σ a x) (nRem τ a (σ 3 a 0) x) := by
  have hM := (h a ha.1 ha.2).1
  intro b b0 b1
  obtain ⟨q0, q1, q2⟩ := h b b0 b1
  by_cases hb : b = a
  · subst hb
    rw [fRem_3]
    refine ⟨by omega, by unfold nRem; rw [ups_eq], fun j j0 j1 => ?_⟩
    rw [nRem_1 _ j0 j1, nRem_2 _ j0 j1, fRem_v _ (Or.inl rfl) j1, fRem_v _ (Or.inr rfl) j1]
    by_cases c : x ≤ j
    · rw [if_pos c, if_pos c, if_pos c, if_pos c]; exact q2 (j + 1) (by omega) (by omega)
    · rw [if_neg c, if_neg c, if_neg c, if_neg c]; exact q2 j (by omega) (by omega)
  · rw [fRem_row _ hb]
    refine ⟨q0, by rw [nRem_o hx.1 (by omega) hM.1]; exact q1, fun j j0 j1 => ?_⟩
    rw [nRem_o hx.1 (by omega) hM.1, nRem_o hx.1 (by omega) hM.1, fRem_row _ hb, fRem_row _ hb]
    exact q2 j j0 j1
theorem RPi_rem {σ τ : St} (h : RPi σ τ) {a x M : Int} (ha : 0 ≤ a ∧ a < 3) (hx : 0 ≤ x) (hM : 0 ≤ M ∧ M ≤ 20) : RPi (fRem σ a x) (nRem τ a M x) := by
  have T := fRem_T σ a x
  refine ⟨by rw [T 5 (by decide)]; exact h.1, fun d d0 d1 => ?_⟩
  rw [T 5 (by decide)] at d1
  exact RPg_c (h.2 d d0 d1) (fun _ => fRem_row _ (by omega) _ _ _) (fun _ => fRem_row _ (by omega) _ _ _) (fRem_row _ (by omega) _ _ _) (by rw [T 4 (by decide)]) (fun i h1 _ => nRem_o hx (by omega) hM.1)
theorem R0_rem {σ τ : St} (h : R0 σ τ) {a x : Int} (ha : 0 ≤ a ∧ a < 3) (hx : 0 ≤ x ∧ x < σ 3 a 0) : R0 (fRem σ a x) (nRem τ a (σ 3 a 0) x) := by
  obtain ⟨a1, a2, a3, a4, a5, a6, a7, a8⟩ := h
  have T := fRem_T σ a x
  exact ⟨RLs_rem a1 ha hx, RQ_T a2 (T 26 (by decide)) (T 27 (by decide)) (T 28 (by decide)) (T 12 (by decide)) (T 13 (by decide)), RD_T a3 (T 18 (by decide)) (T 17 (by decide)), by rw [T 6 (by decide)]; exact a4, by rw [T 17 (by decide)]; exact a5, by rw [T 29 (by decide)]; exact a6, by rw [T 30 (by decide)]; exact a7, fun j j0 j1 => by rw [nRem_h _ _ _ _ (by decide)]; exact a8 j j0 j1⟩
theorem R1_rem {σ τ : St} (h : R1 σ τ) {a x : Int} (ha : 0 ≤ a ∧ a < 3) (hx : 0 ≤ x ∧ x < σ 3 a 0) : R1 (fRem σ a x) (nRem τ a (σ 3 a 0) x) := by
  obtain ⟨a1, a2, a3, a4, a5, a6⟩ := h
  have T := fRem_T σ a x
  have hM := (a1 a ha.1 ha.2).1
  refine ⟨RLs_rem a1 ha hx, RPi_rem a2 ha hx.1 hM, ?_, RQ_T a4 (T 26 (by decide)) (T 27 (by decide)) (T 28 (by decide)) (T 12 (by decide)) (T 13 (by decide)), RD_T a5 (T 18 (by decide)) (T 17 (by decide)), RS_T a6 (T 6 (by decide)) (T 8 (by decide)) (T 11 (by decide)) (T 17 (by decide)) (T 16 (by decide))⟩
  have eo : nRem τ a (σ 3 a 0) x 40 1048 0 = τ 40 1048 0 := nRem_o hx.1 (by omega) hM.1
  have eh : ∀ i : Int, nRem τ a (σ 3 a 0) x 41 i 0 = τ 41 i 0 := fun i => nRem_h _ _ _ _ (by decide) _ _
  unfold RNm
  rw [T 5 (by decide), T 9 (by decide), T 10 (by decide), T 29 (by decide), T 7 (by decide), T 30 (by decide), T 15 (by decide), eo, eh 0, eh 1, eh 2, eh 5, eh 4, eh 3]
  exact a3
-- the player begun
theorem near_1 {σ : St} (hq : RQ σ) : near σ 0 = 0 := by
  obtain ⟨a1, a2, a3, a4, a5⟩ := hq
  exact near_hit (by omega) a5 (fun y y0 y1 _ => Or.inr ⟨by rw [show y = 0 by omega], by omega⟩)
theorem R1_start {σ τ : St} (h : R0 σ τ) {a : Int} (ha : 0 ≤ a ∧ a < 3) : R1 (fStart σ 0 a) (ups (nCopy τ a 1000) 41 0 0 1) ∧ fStart σ 0 a 8 0 0 = 0 := by
  obtain ⟨a1, a2, a3, a4, a5, a6, a7, a8⟩ := h
  have en := near_1 a2
  obtain ⟨β, hβ⟩ : ∃ z, z = ups (ups (ups (ups (ups (ups σ 6 0 0 1) 7 0 0 a) 9 0 0 0) 10 0 0 0) 11 0 0 (-1)) 25 0 0 (-1) := ⟨_, rfl⟩
  have B6 : ∀ t, t ∉ [6, 7, 9, 10, 11, 25] → β t = σ t := by rw [hβ]; exact beg6 σ 0 a
  have F : fBegin σ 0 a = fPut (ups β 5 0 0 0) 0 a := by rw [hβ]; rfl
  have e0 : ups β 5 0 0 0 5 0 0 = 0 := ups_eq _ _ _ _ _
  have U := ups_T β 5 0 0 0
  have P := fPut_T (ups β 5 0 0 0) 0 a
  have e6 : β 6 0 0 = 1 := by rw [hβ, ups_t _ (by decide), ups_t _ (by decide), ups_t _ (by decide), ups_t _ (by decide), ups_t _ (by decide), ups_eq]
  have e9 : β 9 0 0 = 0 := by rw [hβ, ups_t _ (by decide), ups_t _ (by decide), ups_t _ (by decide), ups_eq]
  have e10 : β 10 0 0 = 0 := by rw [hβ, ups_t _ (by decide), ups_t _ (by decide), ups_eq]
  have e11 : β 11 0 0 = -1 := by rw [hβ, ups_t _ (by decide), ups_eq]
  obtain ⟨φ, hφ⟩ : ∃ z, z = fPut (ups β 5 0 0 0) 0 a := ⟨_, rfl⟩
  have S : fStart σ 0 a = aFirst (ups φ 8 0 0 0) 0 0 := by
    unfold fStart fCome
    rw [en, if_pos rfl, F, hφ]
  have L0 : RLs (ups β 5 0 0 0) τ := RL_T a1 (by rw [U 1 (by decide), B6 1 (by decide)]) (by rw [U 2 (by decide), B6 2 (by decide)]) (by rw [U 3 (by decide), B6 3 (by decide)])
  have e1000 : (1000 : Int) = 1000 + 50 * ups β 5 0 0 0 5 0 0 := by rw [e0]; omega
  have pL := put_RL L0 (r := a) (by rw [e0]; omega)
  have pP := put_RP L0 ha (by rw [e0]; omega) (fun d d0 d1 => by rw [e0] at d1; omega)
  rw [← e1000, ← hφ] at pL pP
  rw [← hφ] at P
  -- what the end holds of each
  have G : ∀ t, t ∉ [8, 16, 17] → aFirst (ups φ 8 0 0 0) 0 0 t = φ t := fun t ht => by
    funext i j
    rw [aFirst_o _ _ _ (fun z => ht (by rw [z]; decide)) (fun z => ht (by rw [z]; decide)), ups_t _ (fun z => ht (by rw [z]; decide))]
  have PB : ∀ t, t ∉ [1, 2, 3, 4, 5, 7, 24] → φ t = β t := fun t ht => by rw [P t ht, U t (fun z => ht (by rw [List.mem_singleton.mp z]; decide))]
  have p17 : ∀ w, φ 17 w 0 = σ 17 w 0 := fun w => by rw [PB 17 (by decide), B6 17 (by decide)]
  rw [S]
  have e8 : aFirst (ups φ 8 0 0 0) 0 0 8 0 0 = 0 := by rw [aFirst_o _ _ _ (by decide) (by decide), ups_eq]
  refine ⟨⟨RL_h (RL_T pL (G 1 (by decide)) (G 2 (by decide)) (G 3 (by decide))) _ _, RP_h (RP_T pP (G 1 (by decide)) (G 2 (by decide)) (G 3 (by decide)) (G 4 (by decide)) (G 5 (by decide))) _ _, ?_, ?_, ?_, ?_⟩, e8⟩
  · unfold RNm
    have f5 : φ 5 0 0 = 1 := by rw [hφ, fPut_5, e0]; rfl
    have f7 : φ 7 0 0 = a := by rw [hφ, fPut_7, if_pos e0]
    have e48 : nCopy τ a 1000 40 1048 0 = a := nCopy_48 τ a 1000
    rw [G 5 (by decide), G 9 (by decide), G 10 (by decide), G 29 (by decide), G 7 (by decide), G 30 (by decide), G 15 (by decide), f5, f7, PB 9 (by decide), PB 10 (by decide), PB 29 (by decide), PB 30 (by decide), e9, e10, B6 29 (by decide), B6 30 (by decide), ups_eq, ups_i _ _ _ (show (1 : Int) ≠ 0 by decide), ups_i _ _ _ (show (2 : Int) ≠ 0 by decide), ups_i _ _ _ (show (3 : Int) ≠ 0 by decide), ups_i _ _ _ (show (4 : Int) ≠ 0 by decide), ups_i _ _ _ (show (5 : Int) ≠ 0 by decide), ups_t _ (show (40 : Nat) ≠ 41 by decide), e48, nCopy_h _ _ _ (by decide), nCopy_h _ _ _ (by decide), nCopy_h _ _ _ (by decide), nCopy_h _ _ _ (by decide), nCopy_h _ _ _ (by decide)]
    exact ⟨rfl, a8 1 (by decide) (by decide), a8 2 (by decide) (by decide), by rw [a8 5 (by decide) (by decide)]; exact a6.symm, rfl, ha, by rw [a8 4 (by decide) (by decide)]; exact a7.symm, fun z => absurd a7 z⟩
  · exact RQ_T a2 (by rw [G 26 (by decide), PB 26 (by decide), B6 26 (by decide)]) (by rw [G 27 (by decide), PB 27 (by decide), B6 27 (by decide)]) (by rw [G 28 (by decide), PB 28 (by decide), B6 28 (by decide)]) (by rw [G 12 (by decide), PB 12 (by decide), B6 12 (by decide)]) (by rw [G 13 (by decide), PB 13 (by decide), B6 13 (by decide)])
  · intro d d0 d1
    obtain ⟨q1, q2⟩ := a3 d d0 d1
    refine ⟨by rw [G 18 (by decide), PB 18 (by decide), B6 18 (by decide)]; exact q1, ?_⟩
    rw [aFirst_szo _ (by omega), ups_t _ (by decide), p17]
    exact q2
  · refine ⟨by rw [G 6 (by decide), PB 6 (by decide), e6], e8, by rw [G 11 (by decide), PB 11 (by decide), e11], ?_, aFirst_new _ _ _⟩
    rw [aFirst_sz, ups_t _ (by decide), p17, a5]
    rfl
-- ticks of a row whose player isn't begun
theorem R0_30 {σ τ : St} (h : R0 σ τ) : R0 (ups σ 30 0 0 0) (ups τ 41 4 0 0) := by
  obtain ⟨a1, a2, a3, a4, a5, a6, a7, a8⟩ := h
  have T := ups_T σ 30 0 0 0
  refine ⟨RL_h (RL_T a1 (T 1 (by decide)) (T 2 (by decide)) (T 3 (by decide))) _ _, RQ_T a2 (T 26 (by decide)) (T 27 (by decide)) (T 28 (by decide)) (T 12 (by decide)) (T 13 (by decide)), RD_T a3 (T 18 (by decide)) (T 17 (by decide)), by rw [T 6 (by decide)]; exact a4, by rw [T 17 (by decide)]; exact a5, by rw [T 29 (by decide)]; exact a6, ups_eq _ _ _ _ _, fun j j0 j1 => ?_⟩
  by_cases hj : j = 4
  · rw [hj, ups_eq]
  · rw [ups_i _ _ _ hj]; exact a8 j j0 j1
-- the count of the waits
theorem cntB_c {f g : Int → Bool} : ∀ n : Nat, (∀ j : Int, 0 ≤ j → j < n → f j = g j) → cntB f n = cntB g n
  | 0, _ => rfl
  | n + 1, h => by
    rw [cntB, cntB, cntB_c n (fun j a b => h j a (by omega)), h (n : Int) (by omega) (by omega)]
theorem waits_eq {σ τ : St} (h : RLs σ τ) {a : Int} (ha : 0 ≤ a ∧ a < 3) : cN (fun j => decide (σ 1 a j = 119)) (σ 3 a 0) = cN (fun j => decide (τ 40 (50 * a + 1 + 2 * j) 0 = 119)) (σ 3 a 0) := by
  obtain ⟨q0, q1, q2⟩ := h a ha.1 ha.2
  unfold cN
  exact cntB_c _ (fun j j0 j1 => by rw [(q2 j j0 (by omega)).1])
theorem fStop_6 (σ : St) (k : Int) : fStop σ k 6 k 0 = 0 := by
  unfold fStop
  rw [ups_t _ (by decide), ups_eq]
theorem fStop_27 (σ : St) (k : Int) {t : Nat} (ht : t ∉ [6, 8, 11, 16, 17, 18, 25]) : fStop σ k t = σ t := by
  unfold fStop
  rw [ups_T _ _ _ _ _ t (fun z => ht (by rw [List.mem_singleton.mp z]; decide)), ups_T _ _ _ _ _ t (fun z => ht (by rw [List.mem_singleton.mp z]; decide)), wid (fLeave_T _ k) (T' := [6, 8, 11, 16, 17, 18, 25]) (by decide) t ht, wid (fFrees_T 6 _ k) (T' := [6, 8, 11, 16, 17, 18, 25]) (by decide) t ht, wid (fUnq_T σ k) (T' := [6, 8, 11, 16, 17, 18, 25]) (by decide) t ht]
-- the law's loop: before and behind a turn of it
def RK (k : Int) (σ τ : St) : Prop := (k ≤ 6 ∧ R0 σ τ) ∨ (6 < k ∧ R1 σ τ)
def RA (k : Int) (σ τ : St) : Prop := (k < 6 ∧ R0 σ τ) ∨ (6 ≤ k ∧ R1 σ τ)
theorem RK.L {k : Int} {σ τ : St} (h : RK k σ τ) : RLs σ τ := h.elim (fun z => z.2.1) (fun z => z.2.1)
theorem RK.Q {k : Int} {σ τ : St} (h : RK k σ τ) : RQ σ := h.elim (fun z => z.2.2.1) (fun z => z.2.2.2.2.1)
theorem RA.L {k : Int} {σ τ : St} (h : RA k σ τ) : RLs σ τ := h.elim (fun z => z.2.1) (fun z => z.2.1)
theorem RA.Q {k : Int} {σ τ : St} (h : RA k σ τ) : RQ σ := h.elim (fun z => z.2.2.1) (fun z => z.2.2.2.2.1)
theorem RK_A {k : Int} {σ τ : St} (h : RK k σ τ) (hk : k ≠ 6) : RA k σ τ := h.elim (fun z => Or.inl ⟨by omega, z.2⟩) (fun z => Or.inr ⟨by omega, z.2⟩)
theorem RA_ins {k' : Int} {σ τ : St} (h : RA k' σ τ) {a x k n : Int} (ha : 0 ≤ a ∧ a < 3) (hx : 0 ≤ x ∧ x ≤ σ 3 a 0) (h20 : σ 3 a 0 < 20) : RA k' (fIns σ a x k n) (nIns τ a (σ 3 a 0) x k n) :=
  h.elim (fun z => Or.inl ⟨z.1, R0_ins z.2 ha hx h20⟩) (fun z => Or.inr ⟨z.1, R1_ins z.2 ha hx h20⟩)
theorem RA_rem {k' : Int} {σ τ : St} (h : RA k' σ τ) {a x : Int} (ha : 0 ≤ a ∧ a < 3) (hx : 0 ≤ x ∧ x < σ 3 a 0) : RA k' (fRem σ a x) (nRem τ a (σ 3 a 0) x) :=
  h.elim (fun z => Or.inl ⟨z.1, R0_rem z.2 ha hx⟩) (fun z => Or.inr ⟨z.1, R1_rem z.2 ha hx⟩)
theorem RA_start {σ τ : St} (h : RK 6 σ τ) {a : Int} (ha : 0 ≤ a ∧ a < 3) : RA 6 (fStart σ 0 a) (ups (nCopy τ a 1000) 41 0 0 1) :=
  h.elim (fun z => Or.inr ⟨by decide, (R1_start z.2 ha).1⟩) (fun z => absurd z.1 (by decide))
theorem RA_30 {k : Int} {σ τ : St} (h : RA k σ τ) : RA k (ups σ 30 0 0 0) (ups τ 41 4 0 0) :=
  h.elim (fun z => Or.inl ⟨z.1, R0_30 z.2⟩) (fun z => Or.inr ⟨z.1, R1_30 z.2⟩)
def nGo (n : Nat) (τ : St) : St := if 0 < τ 41 0 0 then nTurns n τ else τ
theorem RA_go {N M k : Int} {σ τ : St} (hv : Inv N M σ) (h : RA k σ τ) (n : Nat) : RK (k + 1) (fTick n σ) (nGo n τ) := by
  rcases h with ⟨h1, h2⟩ | ⟨h1, h2⟩
  · have e0 : τ 41 0 0 = 0 := h2.2.2.2.2.2.2.2 0 (by decide) (by decide)
    refine Or.inl ⟨by omega, ?_⟩
    unfold nGo
    rw [if_neg (by omega), fTick_off h2.2.1 h2.2.2.2.2.1]
    exact h2
  · have e0 := h2.2.2.1.1
    have b5 := h2.2.1.1
    refine Or.inr ⟨by omega, ?_⟩
    unfold nGo
    rw [if_pos (by omega)]
    exact R1_ticks hv h2 n
theorem RA_29 {N M k : Int} {σ τ : St} (hv : Inv N M σ) (h : RA k σ τ) (n : Nat) : σ 29 0 0 ≤ fTick n σ 29 0 0 ∧ fTick n σ 29 0 0 ≤ σ 29 0 0 + 8 * n := by
  rcases h with ⟨h1, h2⟩ | ⟨h1, h2⟩
  · rw [fTick_off h2.2.1 h2.2.2.2.2.1]; omega
  · exact ticks_29 hv h2 n
theorem RK_nums {k : Int} {σ τ : St} (h : RK k σ τ) : τ 41 4 0 = σ 30 0 0 ∧ τ 41 5 0 = σ 29 0 0 := by
  rcases h with ⟨h1, h2⟩ | ⟨h1, h2⟩
  · obtain ⟨a1, a2, a3, a4, a5, a6, a7, a8⟩ := h2
    exact ⟨by rw [a8 4 (by decide) (by decide), a7], by rw [a8 5 (by decide) (by decide), a6]⟩
  · exact ⟨h2.2.2.1.2.2.2.2.2.2.1, h2.2.2.1.2.2.2.1⟩
-- the first row of all
def σK : St := ups (ups (ups (ups σ0 26 0 0 1) 26 0 0 2) 26 0 0 3) 27 0 0 1
theorem σK_o {t : Nat} (h1 : t ≠ 26) (h2 : t ≠ 27) : σK t = σ0 t := by
  funext i j
  unfold σK
  rw [ups_t _ h2, ups_t _ h1, ups_t _ h1, ups_t _ h1]
theorem R0_first : R0 σK (fun _ _ _ => 0) := by
  have O := fun (t : Nat) (h1 : t ≠ 26) (h2 : t ≠ 27) => σK_o h1 h2
  have e26 : σK 26 0 0 = 3 := by unfold σK; rw [ups_t _ (by decide), ups_eq]
  have e27 : σK 27 0 0 = 1 := by unfold σK; rw [ups_eq]
  refine ⟨fun a _ _ => ?_, ⟨e26, e27, by rw [O 28 (by decide) (by decide)]; rfl, by rw [O 12 (by decide) (by decide)]; rfl, by rw [O 13 (by decide) (by decide)]; rfl⟩, fun d _ _ => ⟨Or.inl (by rw [O 18 (by decide) (by decide)]; rfl), by rw [O 17 (by decide) (by decide)]; rfl⟩, by rw [O 6 (by decide) (by decide)]; rfl, by rw [O 17 (by decide) (by decide)]; rfl, by rw [O 29 (by decide) (by decide)]; rfl, by rw [O 30 (by decide) (by decide)]; rfl, fun _ _ _ => rfl⟩
  rw [O 3 (by decide) (by decide)]
  have e3 : σ0 3 a 0 = 0 := rfl
  rw [e3]
  exact ⟨by decide, rfl, fun j j0 j1 => absurd j0 (by omega)⟩
end LMATH4
