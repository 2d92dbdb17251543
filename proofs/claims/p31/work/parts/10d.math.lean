section LMATH2
-- the class's numbers (σ) beside the law's (τ)
def RLs (σ τ : St) : Prop := ∀ a : Int, 0 ≤ a → a < 3 → (0 ≤ σ 3 a 0 ∧ σ 3 a 0 ≤ 20) ∧ τ 40 (50 * a) 0 = σ 3 a 0 ∧ ∀ j : Int, 0 ≤ j → j < σ 3 a 0 → τ 40 (50 * a + 1 + 2 * j) 0 = σ 1 a j ∧ τ 40 (50 * a + 2 + 2 * j) 0 = σ 2 a j
def RPg (σ τ : St) (d : Int) : Prop := (0 ≤ σ 3 (8 + d) 0 ∧ σ 3 (8 + d) 0 ≤ 20) ∧ τ 40 (1000 + 50 * d) 0 = σ 3 (8 + d) 0 ∧ τ 40 (1000 + 50 * d + 49) 0 = σ 4 0 d ∧ ∀ j : Int, 0 ≤ j → j < σ 3 (8 + d) 0 → τ 40 (1000 + 50 * d + 1 + 2 * j) 0 = σ 1 (8 + d) j ∧ τ 40 (1000 + 50 * d + 2 + 2 * j) 0 = σ 2 (8 + d) j
def RPi (σ τ : St) : Prop := (1 ≤ σ 5 0 0 ∧ σ 5 0 0 ≤ 4) ∧ ∀ d : Int, 0 ≤ d → d < σ 5 0 0 → RPg σ τ d
def RNm (σ τ : St) : Prop := τ 41 0 0 = σ 5 0 0 ∧ τ 41 1 0 = σ 9 0 0 ∧ τ 41 2 0 = σ 10 0 0 ∧ τ 41 5 0 = σ 29 0 0 ∧ τ 40 1048 0 = σ 7 0 0 ∧ (0 ≤ σ 7 0 0 ∧ σ 7 0 0 < 3) ∧ τ 41 4 0 = σ 30 0 0 ∧ (σ 30 0 0 ≠ 0 → τ 41 3 0 = σ 15 0 0 ∧ 0 ≤ σ 15 0 0)
def RQ (σ : St) : Prop := σ 26 0 0 = 3 ∧ σ 27 0 0 = 1 ∧ σ 28 0 0 = 0 ∧ σ 12 0 0 = 0 ∧ σ 13 0 0 = 0
def RD (σ : St) : Prop := ∀ d : Int, 0 ≤ d → d < 6 → (σ 18 d 0 = -1 ∨ σ 18 d 0 = 0) ∧ σ 17 (6 + d) 0 = 0
def RS (σ : St) : Prop := σ 6 0 0 = 1 ∧ σ 8 0 0 = 0 ∧ σ 11 0 0 = -1 ∧ σ 17 0 0 = 1 ∧ σ 16 0 0 = 0
def R1 (σ τ : St) : Prop := RLs σ τ ∧ RPi σ τ ∧ RNm σ τ ∧ RQ σ ∧ RD σ ∧ RS σ
def R0 (σ τ : St) : Prop := RLs σ τ ∧ RQ σ ∧ RD σ ∧ σ 6 0 0 = 0 ∧ σ 17 0 0 = 0 ∧ σ 29 0 0 = 0 ∧ σ 30 0 0 = 0 ∧ ∀ j : Int, 0 ≤ j → j < 6 → τ 41 j 0 = 0
-- what they speak of
theorem RLs_c {σ τ σ' τ' : St} (h : RLs σ τ) (h1 : ∀ a : Int, a < 8 → ∀ j, σ' 1 a j = σ 1 a j) (h2 : ∀ a : Int, a < 8 → ∀ j, σ' 2 a j = σ 2 a j) (h3 : ∀ a : Int, a < 8 → σ' 3 a 0 = σ 3 a 0) (ht : ∀ i : Int, i < 1000 → τ' 40 i 0 = τ 40 i 0) : RLs σ' τ' := by
  intro a a0 a1
  obtain ⟨q0, q1, q2⟩ := h a a0 a1
  rw [h3 a (by omega)]
  refine ⟨q0, by rw [ht _ (by omega)]; exact q1, fun j j0 j1 => ?_⟩
  obtain ⟨q3, q4⟩ := q2 j j0 j1
  exact ⟨by rw [ht _ (by omega), h1 a (by omega)]; exact q3, by rw [ht _ (by omega), h2 a (by omega)]; exact q4⟩
theorem RPg_c {σ τ σ' τ' : St} {d : Int} (h : RPg σ τ d) (h1 : ∀ j, σ' 1 (8 + d) j = σ 1 (8 + d) j) (h2 : ∀ j, σ' 2 (8 + d) j = σ 2 (8 + d) j) (h3 : σ' 3 (8 + d) 0 = σ 3 (8 + d) 0) (h4 : σ' 4 0 d = σ 4 0 d) (ht : ∀ i : Int, 1000 + 50 * d ≤ i → i ≤ 1000 + 50 * d + 49 → τ' 40 i 0 = τ 40 i 0) : RPg σ' τ' d := by
  obtain ⟨q0, q1, q2, q3⟩ := h
  refine ⟨by rw [h3]; exact q0, by rw [h3, ht _ (by omega) (by omega)]; exact q1, by rw [h4, ht _ (by omega) (by omega)]; exact q2, fun j j0 j1 => ?_⟩
  rw [h3] at j1
  obtain ⟨q4, q5⟩ := q3 j j0 j1
  exact ⟨by rw [ht _ (by omega) (by omega), h1]; exact q4, by rw [ht _ (by omega) (by omega), h2]; exact q5⟩
/-- numbers that no list speaks of -/
theorem RL_T {σ τ σ' : St} (h : RLs σ τ) (h1 : σ' 1 = σ 1) (h2 : σ' 2 = σ 2) (h3 : σ' 3 = σ 3) : RLs σ' τ := RLs_c h (fun _ _ _ => by rw [h1]) (fun _ _ _ => by rw [h2]) (fun _ _ => by rw [h3]) (fun _ _ => rfl)
theorem RP_T {σ τ σ' : St} (h : RPi σ τ) (h1 : σ' 1 = σ 1) (h2 : σ' 2 = σ 2) (h3 : σ' 3 = σ 3) (h4 : σ' 4 = σ 4) (h5 : σ' 5 = σ 5) : RPi σ' τ := by
  obtain ⟨q0, q1⟩ := h
  refine ⟨by rw [h5]; exact q0, fun d d0 d1 => ?_⟩
  rw [h5] at d1
  exact RPg_c (q1 d d0 d1) (fun _ => by rw [h1]) (fun _ => by rw [h2]) (by rw [h3]) (by rw [h4]) (fun _ _ _ => rfl)
theorem RQ_T {σ σ' : St} (h : RQ σ) (h1 : σ' 26 = σ 26) (h2 : σ' 27 = σ 27) (h3 : σ' 28 = σ 28) (h4 : σ' 12 = σ 12) (h5 : σ' 13 = σ 13) : RQ σ' := by
  unfold RQ
  rw [h1, h2, h3, h4, h5]
  exact h
theorem RD_T {σ σ' : St} (h : RD σ) (h1 : σ' 18 = σ 18) (h2 : σ' 17 = σ 17) : RD σ' := by
  unfold RD
  rw [h1, h2]
  exact h
theorem RS_T {σ σ' : St} (h : RS σ) (h1 : σ' 6 = σ 6) (h2 : σ' 8 = σ 8) (h3 : σ' 11 = σ 11) (h4 : σ' 17 = σ 17) (h5 : σ' 16 = σ 16) : RS σ' := by
  unfold RS
  rw [h1, h2, h3, h4, h5]
  exact h
/-- the law's six numbers written -/
theorem RL_h {σ τ : St} (h : RLs σ τ) (j v : Int) : RLs σ (ups τ 41 j 0 v) := RLs_c h (fun _ _ _ => rfl) (fun _ _ _ => rfl) (fun _ _ => rfl) (fun _ _ => ups_t _ (by decide) _ _ _ _ _)
theorem RP_h {σ τ : St} (h : RPi σ τ) (j v : Int) : RPi σ (ups τ 41 j 0 v) :=
  ⟨h.1, fun d d0 d1 => RPg_c (h.2 d d0 d1) (fun _ => rfl) (fun _ => rfl) rfl rfl (fun _ _ _ => ups_t _ (by decide) _ _ _ _ _)⟩
-- the top of the pile
theorem top_eq {σ τ : St} (h : R1 σ τ) : nTop τ = 1000 + 50 * (σ 5 0 0 - 1) := by
  unfold nTop
  rw [h.2.2.1.1]
theorem top_pg {σ τ : St} (h : R1 σ τ) : RPg σ τ (σ 5 0 0 - 1) := h.2.1.2 _ (by have := h.2.1.1.1; omega) (by omega)
theorem r8 (d : Int) : 8 + 4 * 0 + d = 8 + d := by omega
theorem end_iff {σ τ : St} (h : R1 σ τ) : nEnd τ ↔ atEnd σ 0 := by
  obtain ⟨-, q1, q2, -⟩ := top_pg h
  unfold nEnd atEnd
  rw [top_eq h, q1, q2, r8]
theorem R1_hd {σ τ : St} (h : R1 σ τ) : R1 (ups σ 29 0 0 (σ 29 0 0 + 1)) (nHd τ) := by
  obtain ⟨a1, a2, ⟨b1, b2, b3, b4, b5, b6, b7, b8⟩, a4, a5, a6⟩ := h
  have T := ups_T σ 29 0 0 (σ 29 0 0 + 1)
  unfold nHd
  refine ⟨RL_h (RL_T a1 (T 1 (by decide)) (T 2 (by decide)) (T 3 (by decide))) _ _, RP_h (RP_T a2 (T 1 (by decide)) (T 2 (by decide)) (T 3 (by decide)) (T 4 (by decide)) (T 5 (by decide))) _ _, ?_, RQ_T a4 (T 26 (by decide)) (T 27 (by decide)) (T 28 (by decide)) (T 12 (by decide)) (T 13 (by decide)), RD_T a5 (T 18 (by decide)) (T 17 (by decide)), RS_T a6 (T 6 (by decide)) (T 8 (by decide)) (T 11 (by decide)) (T 17 (by decide)) (T 16 (by decide))⟩
  unfold RNm
  rw [ups_eq, ups_eq, ups_i _ _ _ (show (0 : Int) ≠ 5 by decide), ups_i _ _ _ (show (1 : Int) ≠ 5 by decide), ups_i _ _ _ (show (2 : Int) ≠ 5 by decide), ups_i _ _ _ (show (3 : Int) ≠ 5 by decide), ups_i _ _ _ (show (4 : Int) ≠ 5 by decide), ups_t _ (show (40 : Nat) ≠ 41 by decide), ups_t _ (show (5 : Nat) ≠ 29 by decide), ups_t _ (show (9 : Nat) ≠ 29 by decide), ups_t _ (show (10 : Nat) ≠ 29 by decide), ups_t _ (show (7 : Nat) ≠ 29 by decide), ups_t _ (show (30 : Nat) ≠ 29 by decide), ups_t _ (show (15 : Nat) ≠ 29 by decide)]
  exact ⟨b1, b2, b3, by omega, b5, b6, b7, b8⟩
theorem R1_pop {σ τ : St} (h : R1 σ τ) (c : 1 < σ 5 0 0) : R1 (pop1 σ 0) (nPop τ) := by
  obtain ⟨a1, a2, ⟨b1, b2, b3, b4, b5, b6, b7, b8⟩, a4, a5, a6⟩ := h
  have T : ∀ t, t ∉ [5, 24] → pop1 σ 0 t = σ t := fun t ht => by
    funext i j
    exact pop1_o σ 0 (fun z => ht (by rw [z]; decide)) (fun z => ht (by rw [z]; decide)) i j
  have e5 : pop1 σ 0 5 0 0 = σ 5 0 0 - 1 := pop1_h σ 0
  unfold nPop
  refine ⟨RL_h (RL_T a1 (T 1 (by decide)) (T 2 (by decide)) (T 3 (by decide))) _ _, ?_, ?_, RQ_T a4 (T 26 (by decide)) (T 27 (by decide)) (T 28 (by decide)) (T 12 (by decide)) (T 13 (by decide)), RD_T a5 (T 18 (by decide)) (T 17 (by decide)), RS_T a6 (T 6 (by decide)) (T 8 (by decide)) (T 11 (by decide)) (T 17 (by decide)) (T 16 (by decide))⟩
  · refine ⟨by rw [e5]; have := a2.1; omega, fun d d0 d1 => ?_⟩
    rw [e5] at d1
    exact RPg_c (a2.2 d d0 (by omega)) (fun _ => by rw [T 1 (by decide)]) (fun _ => by rw [T 2 (by decide)]) (by rw [T 3 (by decide)]) (by rw [T 4 (by decide)]) (fun _ _ _ => ups_t _ (by decide) _ _ _ _ _)
  · unfold RNm
    rw [e5, T 9 (by decide), T 10 (by decide), T 29 (by decide), T 7 (by decide), T 30 (by decide), T 15 (by decide), ups_eq, ups_i _ _ _ (show (1 : Int) ≠ 0 by decide), ups_i _ _ _ (show (2 : Int) ≠ 0 by decide), ups_i _ _ _ (show (3 : Int) ≠ 0 by decide), ups_i _ _ _ (show (4 : Int) ≠ 0 by decide), ups_i _ _ _ (show (5 : Int) ≠ 0 by decide), ups_t _ (show (40 : Nat) ≠ 41 by decide)]
    exact ⟨by omega, b2, b3, b4, b5, b6, b7, b8⟩
-- a list put on the pile
theorem fCopy_lo (σ : St) {r q a : Int} (h : a ≠ r) (t : Nat) (j : Int) : fCopy σ r q t a j = σ t a j := by
  unfold fCopy
  unfold cpP
  rw [if_neg (by omega)]
  exact ups_i _ _ _ h _ _ _
theorem fCopy_3 (σ : St) (r q : Int) : fCopy σ r q 3 r 0 = σ 3 q 0 := by
  unfold fCopy
  unfold cpP
  rw [if_neg (by omega), ups_eq]
theorem fCopy_in (σ : St) {r q j : Int} {t : Nat} (ht : t = 1 ∨ t = 2) (h : 0 ≤ j ∧ j < σ 3 q 0) : fCopy σ r q t r j = σ t q j := by
  unfold fCopy
  unfold cpP
  rw [if_pos ⟨ht, rfl, h.1, h.2⟩]
  rcases ht with rfl | rfl <;> exact ups_t _ (by decide) _ _ _ _ _
theorem fPut_o (σ : St) (p r : Int) {t : Nat} (h : t = 1 ∨ t = 2 ∨ t = 3) (i j : Int) : fPut σ p r t i j = fCopy σ (8 + 4 * p + σ 5 p 0) r t i j := by
  unfold fPut
  rcases h with rfl | rfl | rfl <;> rw [ups_t _ (by decide), ups_t _ (by decide), ups_t _ (by decide), ups_t _ (by decide)]
theorem fPut_4 (σ : St) (p r : Int) (j : Int) : fPut σ p r 4 p j = if j = σ 5 p 0 then 0 else σ 4 p j := by
  unfold fPut
  rw [ups_t _ (by decide), ups_t _ (by decide), ups_t _ (by decide)]
  by_cases h : j = σ 5 p 0
  · rw [if_pos h, h, ups_eq]
  · rw [if_neg h, ups_j _ _ _ h, fCopy_o _ _ _ (by decide) (by decide) (by decide)]
theorem fPut_7 (σ : St) (p r : Int) : fPut σ p r 7 p 0 = if σ 5 p 0 = 0 then r else σ 7 p 0 := by
  unfold fPut
  rw [ups_t _ (by decide), ups_t _ (by decide)]
  by_cases h : σ 5 p 0 = 0
  · rw [if_pos h, h, ups_eq]
  · rw [if_neg h, ups_j _ _ _ (fun z => h z.symm), ups_t _ (by decide), fCopy_o _ _ _ (by decide) (by decide) (by decide)]
theorem fPut_5 (σ : St) (p r : Int) : fPut σ p r 5 p 0 = σ 5 p 0 + 1 := by
  unfold fPut
  rw [ups_t _ (by decide), ups_eq]
theorem put_RL {σ τ : St} (h : RLs σ τ) {r : Int} (h5 : 0 ≤ σ 5 0 0) : RLs (fPut σ 0 r) (nCopy τ r (1000 + 50 * σ 5 0 0)) :=
  RLs_c h (fun a ha j => by rw [fPut_o _ _ _ (Or.inl rfl), fCopy_lo _ (by omega)]) (fun a ha j => by rw [fPut_o _ _ _ (Or.inr (Or.inl rfl)), fCopy_lo _ (by omega)]) (fun a ha => by rw [fPut_o _ _ _ (Or.inr (Or.inr rfl)), fCopy_lo _ (by omega)]) (fun i hi => nCopy_lo _ (by omega) _)
theorem put_RP {σ τ : St} (h : RLs σ τ) {r : Int} (hr : 0 ≤ r ∧ r < 3) (h5 : 0 ≤ σ 5 0 0 ∧ σ 5 0 0 < 4) (hp : ∀ d : Int, 0 ≤ d → d < σ 5 0 0 → RPg σ τ d) : RPi (fPut σ 0 r) (nCopy τ r (1000 + 50 * σ 5 0 0)) := by
  have e5 : fPut σ 0 r 5 0 0 = σ 5 0 0 + 1 := fPut_5 σ 0 r
  refine ⟨by rw [e5]; omega, fun d d0 d1 => ?_⟩
  rw [e5] at d1
  by_cases hd : d = σ 5 0 0
  · obtain ⟨q0, q1, q2⟩ := h r hr.1 hr.2
    have e8 : 8 + d = 8 + 4 * 0 + σ 5 0 0 := by omega
    have e3 : fPut σ 0 r 3 (8 + d) 0 = σ 3 r 0 := by rw [fPut_o _ _ _ (Or.inr (Or.inr rfl)), e8, fCopy_3]
    refine ⟨by rw [e3]; exact q0, ?_, ?_, fun j j0 j1 => ?_⟩
    · rw [e3, ← q1, hd]
      have z := nCopy_in τ (q := r) (t := 1000 + 50 * σ 5 0 0) (i := 0) (by omega)
      rw [Int.add_zero, Int.add_zero] at z
      exact z
    · rw [fPut_4, if_pos hd, hd]
      exact nCopy_49 _ _ _
    · rw [e3] at j1
      obtain ⟨q3, q4⟩ := q2 j j0 j1
      rw [fPut_o _ _ _ (Or.inl rfl), fPut_o _ _ _ (Or.inr (Or.inl rfl)), e8, fCopy_in _ (Or.inl rfl) ⟨j0, j1⟩, fCopy_in _ (Or.inr rfl) ⟨j0, j1⟩, ← q3, ← q4, hd]
      have z1 := nCopy_in τ (q := r) (t := 1000 + 50 * σ 5 0 0) (i := 1 + 2 * j) (by omega)
      have z2 := nCopy_in τ (q := r) (t := 1000 + 50 * σ 5 0 0) (i := 2 + 2 * j) (by omega)
      rw [← Int.add_assoc, ← Int.add_assoc] at z1 z2
      exact ⟨z1, z2⟩
  · exact RPg_c (hp d d0 (by omega)) (fun j => by rw [fPut_o _ _ _ (Or.inl rfl), fCopy_lo _ (by omega)]) (fun j => by rw [fPut_o _ _ _ (Or.inr (Or.inl rfl)), fCopy_lo _ (by omega)]) (by rw [fPut_o _ _ _ (Or.inr (Or.inr rfl)), fCopy_lo _ (by omega)]) (by rw [fPut_4, if_neg hd]) (fun i _ hi => nCopy_lo _ (by omega) _)
/-- one list put on the pile of one that plays -/
theorem R1_put {σ τ : St} (h : R1 σ τ) {r : Int} (hr : 0 ≤ r ∧ r < 3) (h5 : σ 5 0 0 < 4) : R1 (fPut σ 0 r) (ups (nCopy τ r (1000 + 50 * σ 5 0 0)) 41 0 0 (τ 41 0 0 + 1)) := by
  obtain ⟨a1, a2, ⟨b1, b2, b3, b4, b5, b6, b7, b8⟩, a4, a5, a6⟩ := h
  have T := fPut_T σ 0 r
  refine ⟨RL_h (put_RL a1 (by have := a2.1; omega)) _ _, RP_h (put_RP a1 hr ⟨by have := a2.1; omega, h5⟩ a2.2) _ _, ?_, RQ_T a4 (T 26 (by decide)) (T 27 (by decide)) (T 28 (by decide)) (T 12 (by decide)) (T 13 (by decide)), RD_T a5 (T 18 (by decide)) (T 17 (by decide)), RS_T a6 (T 6 (by decide)) (T 8 (by decide)) (T 11 (by decide)) (T 17 (by decide)) (T 16 (by decide))⟩
  unfold RNm
  have e48 : nCopy τ r (1000 + 50 * σ 5 0 0) 40 1048 0 = τ 40 1048 0 := nCopy_lo _ (by have := a2.1; omega) _
  rw [fPut_5, T 9 (by decide), T 10 (by decide), T 29 (by decide), fPut_7, if_neg (by have := a2.1; omega), T 30 (by decide), T 15 (by decide), ups_eq, ups_i _ _ _ (show (1 : Int) ≠ 0 by decide), ups_i _ _ _ (show (2 : Int) ≠ 0 by decide), ups_i _ _ _ (show (3 : Int) ≠ 0 by decide), ups_i _ _ _ (show (4 : Int) ≠ 0 by decide), ups_i _ _ _ (show (5 : Int) ≠ 0 by decide), ups_t _ (show (40 : Nat) ≠ 41 by decide), e48, nCopy_h _ _ _ (by decide), nCopy_h _ _ _ (by decide), nCopy_h _ _ _ (by decide), nCopy_h _ _ _ (by decide), nCopy_h _ _ _ (by decide)]
  exact ⟨by omega, b2, b3, b4, b5, b6, b7, b8⟩
/-- the first list begun anew -/
theorem R1_beg {σ τ : St} (h : R1 σ τ) (h1 : σ 5 0 0 = 1) : R1 (fBegP σ 0 (σ 7 0 0)) (nCopy τ (τ 40 (nTop τ + 48) 0) (nTop τ)) := by
  have et := top_eq h
  obtain ⟨a1, a2, ⟨b1, b2, b3, b4, b5, b6, b7, b8⟩, a4, a5, a6⟩ := h
  have et : nTop τ = 1000 := by omega
  rw [et, show (1000 : Int) + 48 = 1048 by omega, b5]
  have e0 : ups σ 5 0 0 0 5 0 0 = 0 := ups_eq _ _ _ _ _
  have U := ups_T σ 5 0 0 0
  have T := fBegP_T σ 0 (σ 7 0 0)
  have L0 : RLs (ups σ 5 0 0 0) τ := RL_T a1 (U 1 (by decide)) (U 2 (by decide)) (U 3 (by decide))
  have e1000 : (1000 : Int) = 1000 + 50 * ups σ 5 0 0 0 5 0 0 := by rw [e0]; omega
  have pL := put_RL L0 (r := σ 7 0 0) (by rw [e0]; omega)
  have pP := put_RP L0 b6 (by rw [e0]; omega) (fun d d0 d1 => by rw [e0] at d1; omega)
  rw [← e1000] at pL pP
  refine ⟨pL, pP, ?_, RQ_T a4 (T 26 (by decide)) (T 27 (by decide)) (T 28 (by decide)) (T 12 (by decide)) (T 13 (by decide)), RD_T a5 (T 18 (by decide)) (T 17 (by decide)), RS_T a6 (T 6 (by decide)) (T 8 (by decide)) (T 11 (by decide)) (T 17 (by decide)) (T 16 (by decide))⟩
  unfold RNm
  have e48 : nCopy τ (σ 7 0 0) 1000 40 1048 0 = σ 7 0 0 := nCopy_48 τ (σ 7 0 0) 1000
  have e7 : fBegP σ 0 (σ 7 0 0) 7 0 0 = σ 7 0 0 := by unfold fBegP; rw [fPut_7, if_pos e0]
  have e5 : fBegP σ 0 (σ 7 0 0) 5 0 0 = 1 := by unfold fBegP; rw [fPut_5, e0]; rfl
  rw [e48, e7, e5, T 9 (by decide), T 10 (by decide), T 29 (by decide), T 30 (by decide), T 15 (by decide), nCopy_h _ _ _ (by decide), nCopy_h _ _ _ (by decide), nCopy_h _ _ _ (by decide), nCopy_h _ _ _ (by decide), nCopy_h _ _ _ (by decide), nCopy_h _ _ _ (by decide)]
  exact ⟨by omega, b2, b3, b4, rfl, b6, b7, b8⟩
/-- the line ahead of the top, and the count, written -/
theorem RP_49 {σ τ : St} {D v : Int} (hP : RPi σ τ) (hD : D = σ 5 0 0 - 1) : RPi (ups σ 4 0 D v) (ups τ 40 (1000 + 50 * D + 49) 0 v) := by
  have e5 : ups σ 4 0 D v 5 0 0 = σ 5 0 0 := ups_t _ (by decide) _ _ _ _ _
  have U := ups_T σ 4 0 D v
  refine ⟨by rw [e5]; exact hP.1, fun d d0 d1 => ?_⟩
  rw [e5] at d1
  obtain ⟨q0, q1, q2, q3⟩ := hP.2 d d0 d1
  by_cases hd : d = D
  · subst hd
    refine ⟨by rw [U 3 (by decide)]; exact q0, by rw [U 3 (by decide), ups_i _ _ _ (by omega)]; exact q1, by rw [ups_eq, ups_eq], fun j j0 j1 => ?_⟩
    rw [U 3 (by decide)] at j1
    rw [U 1 (by decide), U 2 (by decide), ups_i _ _ _ (by omega), ups_i _ _ _ (by omega)]
    exact q3 j j0 j1
  · exact RPg_c (hP.2 d d0 d1) (fun _ => by rw [U 1 (by decide)]) (fun _ => by rw [U 2 (by decide)]) (by rw [U 3 (by decide)]) (ups_j _ _ _ hd _ _ _) (fun i h1 h2 => ups_i _ _ _ (by omega) _ _ _)
theorem R1_49 {σ τ : St} (h : R1 σ τ) (v : Int) : R1 (ups σ 4 0 (σ 5 0 0 - 1) v) (ups τ 40 (nTop τ + 49) 0 v) := by
  have et := top_eq h
  obtain ⟨a1, a2, ⟨b1, b2, b3, b4, b5, b6, b7, b8⟩, a4, a5, a6⟩ := h
  rw [et]
  have T := ups_T σ 4 0 (σ 5 0 0 - 1) v
  have q := a2.1
  refine ⟨RLs_c a1 (fun _ _ _ => by rw [T 1 (by decide)]) (fun _ _ _ => by rw [T 2 (by decide)]) (fun _ _ => by rw [T 3 (by decide)]) (fun i hi => ups_i _ _ _ (by omega) _ _ _), RP_49 a2 rfl, ?_, RQ_T a4 (T 26 (by decide)) (T 27 (by decide)) (T 28 (by decide)) (T 12 (by decide)) (T 13 (by decide)), RD_T a5 (T 18 (by decide)) (T 17 (by decide)), RS_T a6 (T 6 (by decide)) (T 8 (by decide)) (T 11 (by decide)) (T 17 (by decide)) (T 16 (by decide))⟩
  unfold RNm
  rw [T 5 (by decide), T 9 (by decide), T 10 (by decide), T 29 (by decide), T 7 (by decide), T 30 (by decide), T 15 (by decide), ups_t _ (show (41 : Nat) ≠ 40 by decide), ups_t _ (show (41 : Nat) ≠ 40 by decide), ups_t _ (show (41 : Nat) ≠ 40 by decide), ups_t _ (show (41 : Nat) ≠ 40 by decide), ups_t _ (show (41 : Nat) ≠ 40 by decide), ups_t _ (show (41 : Nat) ≠ 40 by decide), ups_i _ _ _ (show (1048 : Int) ≠ 1000 + 50 * (σ 5 0 0 - 1) + 49 by omega)]
  exact ⟨b1, b2, b3, b4, b5, b6, b7, b8⟩
/-- numbers of one that plays written on both sides -/
theorem R1_c {σ τ : St} (h : R1 σ τ) (v : Int) : R1 (ups σ 9 0 0 v) (ups τ 41 1 0 v) := by
  obtain ⟨a1, a2, ⟨b1, b2, b3, b4, b5, b6, b7, b8⟩, a4, a5, a6⟩ := h
  have T := ups_T σ 9 0 0 v
  refine ⟨RL_h (RL_T a1 (T 1 (by decide)) (T 2 (by decide)) (T 3 (by decide))) _ _, RP_h (RP_T a2 (T 1 (by decide)) (T 2 (by decide)) (T 3 (by decide)) (T 4 (by decide)) (T 5 (by decide))) _ _, ?_, RQ_T a4 (T 26 (by decide)) (T 27 (by decide)) (T 28 (by decide)) (T 12 (by decide)) (T 13 (by decide)), RD_T a5 (T 18 (by decide)) (T 17 (by decide)), RS_T a6 (T 6 (by decide)) (T 8 (by decide)) (T 11 (by decide)) (T 17 (by decide)) (T 16 (by decide))⟩
  unfold RNm
  rw [T 5 (by decide), T 10 (by decide), T 29 (by decide), T 7 (by decide), T 30 (by decide), T 15 (by decide), ups_eq, ups_eq, ups_i _ _ _ (show (0 : Int) ≠ 1 by decide), ups_i _ _ _ (show (2 : Int) ≠ 1 by decide), ups_i _ _ _ (show (3 : Int) ≠ 1 by decide), ups_i _ _ _ (show (4 : Int) ≠ 1 by decide), ups_i _ _ _ (show (5 : Int) ≠ 1 by decide), ups_t _ (show (40 : Nat) ≠ 41 by decide)]
  exact ⟨b1, rfl, b3, b4, b5, b6, b7, b8⟩
theorem R1_w {σ τ : St} (h : R1 σ τ) (v : Int) : R1 (ups σ 10 0 0 v) (ups τ 41 2 0 v) := by
  obtain ⟨a1, a2, ⟨b1, b2, b3, b4, b5, b6, b7, b8⟩, a4, a5, a6⟩ := h
  have T := ups_T σ 10 0 0 v
  refine ⟨RL_h (RL_T a1 (T 1 (by decide)) (T 2 (by decide)) (T 3 (by decide))) _ _, RP_h (RP_T a2 (T 1 (by decide)) (T 2 (by decide)) (T 3 (by decide)) (T 4 (by decide)) (T 5 (by decide))) _ _, ?_, RQ_T a4 (T 26 (by decide)) (T 27 (by decide)) (T 28 (by decide)) (T 12 (by decide)) (T 13 (by decide)), RD_T a5 (T 18 (by decide)) (T 17 (by decide)), RS_T a6 (T 6 (by decide)) (T 8 (by decide)) (T 11 (by decide)) (T 17 (by decide)) (T 16 (by decide))⟩
  unfold RNm
  rw [T 5 (by decide), T 9 (by decide), T 29 (by decide), T 7 (by decide), T 30 (by decide), T 15 (by decide), ups_eq, ups_eq, ups_i _ _ _ (show (0 : Int) ≠ 2 by decide), ups_i _ _ _ (show (1 : Int) ≠ 2 by decide), ups_i _ _ _ (show (3 : Int) ≠ 2 by decide), ups_i _ _ _ (show (4 : Int) ≠ 2 by decide), ups_i _ _ _ (show (5 : Int) ≠ 2 by decide), ups_t _ (show (40 : Nat) ≠ 41 by decide)]
  exact ⟨b1, b2, rfl, b4, b5, b6, b7, b8⟩
theorem R1_30 {σ τ : St} (h : R1 σ τ) : R1 (ups σ 30 0 0 0) (ups τ 41 4 0 0) := by
  obtain ⟨a1, a2, ⟨b1, b2, b3, b4, b5, b6, b7, b8⟩, a4, a5, a6⟩ := h
  have T := ups_T σ 30 0 0 0
  refine ⟨RL_h (RL_T a1 (T 1 (by decide)) (T 2 (by decide)) (T 3 (by decide))) _ _, RP_h (RP_T a2 (T 1 (by decide)) (T 2 (by decide)) (T 3 (by decide)) (T 4 (by decide)) (T 5 (by decide))) _ _, ?_, RQ_T a4 (T 26 (by decide)) (T 27 (by decide)) (T 28 (by decide)) (T 12 (by decide)) (T 13 (by decide)), RD_T a5 (T 18 (by decide)) (T 17 (by decide)), RS_T a6 (T 6 (by decide)) (T 8 (by decide)) (T 11 (by decide)) (T 17 (by decide)) (T 16 (by decide))⟩
  unfold RNm
  rw [T 5 (by decide), T 9 (by decide), T 10 (by decide), T 29 (by decide), T 7 (by decide), ups_eq, ups_eq, ups_i _ _ _ (show (0 : Int) ≠ 4 by decide), ups_i _ _ _ (show (1 : Int) ≠ 4 by decide), ups_i _ _ _ (show (3 : Int) ≠ 4 by decide), ups_i _ _ _ (show (2 : Int) ≠ 4 by decide), ups_i _ _ _ (show (5 : Int) ≠ 4 by decide), ups_t _ (show (40 : Nat) ≠ 41 by decide)]
  exact ⟨b1, b2, b3, b4, b5, b6, rfl, fun z => absurd rfl z⟩
theorem noV {σ : St} (h : σ 28 0 0 = 0) (k : Int) : ¬ hasV σ k := by
  unfold hasV
  rw [h, cN_0]
  omega
theorem R1_show {σ τ : St} (h : R1 σ τ) (n : Int) (hn0 : 0 ≤ n) : R1 (fShow σ 0 n) (ups (ups τ 41 3 0 n) 41 4 0 (τ 41 4 0 + 1)) := by
  have T := fShow_T σ 0 n
  obtain ⟨a1, a2, ⟨b1, b2, b3, b4, b5, b6, b7, b8⟩, a4, a5, a6⟩ := h
  have hn := noV a4.2.2.1 0
  have e15 : fShow σ 0 n 15 0 0 = n := by unfold fShow; rw [if_neg (fun z => hn z.1), ups_t _ (by decide), ups_eq]
  have e30 : fShow σ 0 n 30 0 0 = σ 30 0 0 + 1 := by unfold fShow; rw [if_neg (fun z => hn z.1), ups_eq]
  refine ⟨RL_h (RL_h (RL_T a1 (T 1 (by decide)) (T 2 (by decide)) (T 3 (by decide))) _ _) _ _, RP_h (RP_h (RP_T a2 (T 1 (by decide)) (T 2 (by decide)) (T 3 (by decide)) (T 4 (by decide)) (T 5 (by decide))) _ _) _ _, ?_, RQ_T a4 (T 26 (by decide)) (T 27 (by decide)) (T 28 (by decide)) (T 12 (by decide)) (T 13 (by decide)), RD_T a5 (T 18 (by decide)) (T 17 (by decide)), RS_T a6 (T 6 (by decide)) (T 8 (by decide)) (T 11 (by decide)) (T 17 (by decide)) (T 16 (by decide))⟩
  unfold RNm
  rw [e15, e30, T 5 (by decide), T 9 (by decide), T 10 (by decide), T 29 (by decide), T 7 (by decide), ups_eq, ups_i _ _ _ (show (0 : Int) ≠ 4 by decide), ups_i _ _ _ (show (1 : Int) ≠ 4 by decide), ups_i _ _ _ (show (3 : Int) ≠ 4 by decide), ups_i _ _ _ (show (2 : Int) ≠ 4 by decide), ups_i _ _ _ (show (5 : Int) ≠ 4 by decide), ups_eq, ups_i _ _ _ (show (0 : Int) ≠ 3 by decide), ups_i _ _ _ (show (1 : Int) ≠ 3 by decide), ups_i _ _ _ (show (2 : Int) ≠ 3 by decide), ups_i _ _ _ (show (5 : Int) ≠ 3 by decide), ups_t _ (show (40 : Nat) ≠ 41 by decide), ups_t _ (show (40 : Nat) ≠ 41 by decide)]
  exact ⟨b1, b2, b3, b4, b5, b6, by omega, fun _ => ⟨rfl, hn0⟩⟩
/-- devices alone -/
theorem R1_dev {σ τ : St} (h : R1 σ τ) {d v : Int} (hv : v = -1 ∨ v = 0) : R1 (ups σ 18 d 0 v) τ := by
  have T := ups_T σ 18 d 0 v
  obtain ⟨a1, a2, a3, a4, a5, a6⟩ := h
  refine ⟨RL_T a1 (T 1 (by decide)) (T 2 (by decide)) (T 3 (by decide)), RP_T a2 (T 1 (by decide)) (T 2 (by decide)) (T 3 (by decide)) (T 4 (by decide)) (T 5 (by decide)), ?_, RQ_T a4 (T 26 (by decide)) (T 27 (by decide)) (T 28 (by decide)) (T 12 (by decide)) (T 13 (by decide)), fun e e0 e1 => ?_, RS_T a6 (T 6 (by decide)) (T 8 (by decide)) (T 11 (by decide)) (T 17 (by decide)) (T 16 (by decide))⟩
  · unfold RNm
    rw [T 5 (by decide), T 9 (by decide), T 10 (by decide), T 29 (by decide), T 7 (by decide), T 30 (by decide), T 15 (by decide)]
    exact a3
  · obtain ⟨q1, q2⟩ := a5 e e0 e1
    refine ⟨?_, by rw [T 17 (by decide)]; exact q2⟩
    by_cases he : e = d
    · rw [he, ups_eq]; exact hv
    · rw [ups_i _ _ _ he]; exact q1
theorem R1_lease {σ τ : St} (h : R1 σ τ) {d : Int} (hd : 0 ≤ d ∧ d < 6) : R1 (fLease σ 0 d) τ ∧ oLease σ 0 d = 0 := by
  have q := (h.2.2.2.2.1 d hd.1 hd.2).1
  unfold fLease oLease
  by_cases c : σ 18 d 0 = 0 ∨ 3 ≤ held σ 0
  · rw [if_pos c, if_pos c]
    exact ⟨h, rfl⟩
  · rw [if_neg c, if_neg c, if_pos (by omega), if_pos (by omega)]
    exact ⟨R1_dev h (Or.inr rfl), rfl⟩
theorem R1_pass {σ τ : St} (h : R1 σ τ) {d : Int} (hd : 0 ≤ d ∧ d < 6) : R1 (if σ 18 d 0 = 0 then fPass σ d else σ) τ := by
  split
  · unfold fPass
    rw [if_pos (h.2.2.2.2.1 d hd.1 hd.2).2]
    exact R1_dev h (Or.inl rfl)
  · exact h
end LMATH2
