section LMATH3
-- a line of one that plays, on both sides
theorem nMid_id {τ : St} {b k n : Int} (h1 : nC k (τ 41 1 0) n = τ 41 1 0) (h2 : nJ k (τ 41 1 0) n (τ 40 (b + 49) 0) = τ 40 (b + 49) 0) : nMid τ b k n = τ := by
  unfold nMid
  rw [h1, h2, ups_id τ 41 1 0 rfl, ups_id τ 40 (b + 49) 0 rfl]
theorem nMid_j {τ : St} {b k n : Int} (h1 : nC k (τ 41 1 0) n = τ 41 1 0) (h2 : nJ k (τ 41 1 0) n (τ 40 (b + 49) 0) = n) : nMid τ b k n = ups τ 40 (b + 49) 0 n := by
  unfold nMid
  rw [h1, h2, ups_id τ 41 1 0 rfl]
theorem nMid_c {τ : St} {b k n v : Int} (h1 : nC k (τ 41 1 0) n = v) (h2 : nJ k (τ 41 1 0) n (τ 40 (b + 49) 0) = τ 40 (b + 49) 0) : nMid τ b k n = ups τ 41 1 0 v := by
  unfold nMid
  rw [h1, h2]
  exact ups_id _ 40 (b + 49) 0 (ups_t _ (by decide) _ _ _ _ _).symm
theorem nObey_o {τ : St} {b k n : Int} (h1 : k ≠ 115) (h2 : k ≠ 119) (h3 : ¬ (k = 112 ∧ n < 3 ∧ τ 41 0 0 < 4)) : nObey τ b k n = nMid τ b k n := by
  unfold nObey
  rw [if_neg h1, if_neg h2, if_neg h3]
theorem nC_id {k c n : Int} (h : k ≠ 99) (h2 : ¬ (k = 108 ∧ 0 < c)) : nC k c n = c := by
  unfold nC
  rw [if_neg h, if_neg h2]
theorem nJ_id {k c n x : Int} (h : ¬ (k = 103 ∨ k = 118 ∨ (k = 108 ∧ c = 0))) : nJ k c n x = x := by
  unfold nJ
  rw [if_neg h]
theorem nJ_go {k c n x : Int} (h : k = 103 ∨ k = 118 ∨ (k = 108 ∧ c = 0)) : nJ k c n x = n := by
  unfold nJ
  rw [if_pos h]
theorem R1_obey {N M : Int} {σ τ : St} (hv : Inv N M σ) (h : R1 σ τ) {k n : Int} (hk : okL k n) : R1 (fObey σ 0 k n) (nObey τ (nTop τ) k n) ∧ (oObey σ 0 k n = 0 ↔ ¬ (k = 115 ∨ k = 119)) := by
  have h8 : σ 8 0 0 = 0 := h.2.2.2.2.2.2.1
  have h26 : σ 26 0 0 = 3 := h.2.2.2.1.1
  have h28 : σ 28 0 0 = 0 := h.2.2.2.1.2.2.1
  have c9 := hv.C 0 (by decide) (by decide)
  have e9 : τ 41 1 0 = σ 9 0 0 := h.2.2.1.2.1
  have e5 : τ 41 0 0 = σ 5 0 0 := h.2.2.1.1
  have et := top_eq h
  have b5 := h.2.1.1
  unfold fObey oObey
  rw [h8]
  rcases hk with ⟨rfl, n0, n1⟩ | ⟨rfl, n0, n1⟩ | ⟨hk, n0, n1⟩ | ⟨hk, n0, n1⟩ | ⟨rfl, n0, n1⟩ | ⟨rfl, n0, n1⟩
  · rw [if_pos rfl, if_pos rfl]
    unfold nObey
    rw [if_pos rfl]
    refine ⟨R1_show h n n0, ?_⟩
    unfold oShow
    rw [if_neg (fun z => noV h28 0 z.1)]
    decide
  · rw [if_neg (by decide), if_pos rfl, if_neg (by decide), if_pos rfl]
    unfold nObey
    rw [if_neg (by decide), if_pos rfl]
    exact ⟨R1_w h _, by decide⟩
  · rcases hk with rfl | rfl
    · rw [if_neg (by decide), if_neg (by decide), if_pos rfl, if_neg (by decide), if_neg (by decide), if_pos rfl, nObey_o (by decide) (by decide) (by omega), nMid_id (nC_id (by decide) (by omega)) (nJ_id (by omega))]
      obtain ⟨q1, q2⟩ := R1_lease h (d := n) ⟨n0, by omega⟩
      exact ⟨q1, by rw [q2]; decide⟩
    · have g1 : ¬ (102 : Int) = 115 := by decide
      have g2 : ¬ (102 : Int) = 119 := by decide
      have g3 : ¬ (102 : Int) = 100 := by decide
      rw [if_neg g1, if_neg g2, if_neg g3, if_pos rfl, if_neg g1, if_neg g2, if_neg g3, nObey_o g1 g2 (by omega), nMid_id (nC_id (by decide) (by omega)) (nJ_id (by omega))]
      exact ⟨R1_pass h (d := n) ⟨n0, by omega⟩, by decide⟩
  · rcases hk with rfl | rfl | rfl
    · rw [if_neg (by decide), if_neg (by decide), if_neg (by decide), if_neg (by decide), if_neg (by decide), if_neg (by decide), if_neg (by decide), if_neg (by decide), if_neg (by decide), nObey_o (by decide) (by decide) (by omega), nMid_j (nC_id (by decide) (by omega)) (nJ_go (Or.inl rfl))]
      unfold fBranch
      rw [if_neg (by omega), if_pos (Or.inl (by decide))]
      exact ⟨R1_49 h n, by decide⟩
    · rw [if_neg (by decide), if_neg (by decide), if_neg (by decide), if_neg (by decide), if_neg (by decide), if_neg (by decide), if_neg (by decide), if_neg (by decide), if_neg (by decide), nObey_o (by decide) (by decide) (by omega), nMid_j (nC_id (by decide) (by omega)) (nJ_go (Or.inr (Or.inl rfl)))]
      unfold fBranch
      rw [if_neg (by omega), if_pos (Or.inr (noV h28 _))]
      exact ⟨R1_49 h n, by decide⟩
    · rw [if_neg (by decide), if_neg (by decide), if_neg (by decide), if_neg (by decide), if_neg (by decide), if_neg (by decide), if_neg (by decide), if_neg (by decide), if_neg (by decide), nObey_o (by decide) (by decide) (by omega)]
      unfold fBranch
      by_cases hc : 0 < σ 9 0 0
      · rw [if_pos ⟨rfl, hc⟩, nMid_c (v := σ 9 0 0 - 1) (by unfold nC; rw [if_neg (by decide), if_pos ⟨rfl, by omega⟩, e9]) (nJ_id (by omega))]
        exact ⟨R1_c h _, by decide⟩
      · rw [if_neg (by omega), if_pos (Or.inl (by decide)), nMid_j (nC_id (by decide) (by omega)) (nJ_go (Or.inr (Or.inr ⟨rfl, by omega⟩)))]
        exact ⟨R1_49 h n, by decide⟩
  · rw [if_neg (by decide), if_neg (by decide), if_neg (by decide), if_neg (by decide), if_neg (by decide), if_pos rfl, if_neg (by decide), if_neg (by decide), if_neg (by decide), nObey_o (by decide) (by decide) (by omega), nMid_c (v := n) (by unfold nC; rw [if_pos rfl]) (nJ_id (by omega))]
    exact ⟨R1_c h n, by decide⟩
  · have g1 : ¬ (112 : Int) = 115 := by decide
    have g2 : ¬ (112 : Int) = 119 := by decide
    have g3 : ¬ (112 : Int) = 100 := by decide
    have g4 : ¬ (112 : Int) = 102 := by decide
    rw [if_neg g1, if_neg g2, if_neg g3, if_neg g4, if_pos rfl, if_neg g1, if_neg g2, if_neg g3]
    refine ⟨?_, by decide⟩
    have em : nMid τ (nTop τ) 112 n = τ := nMid_id (nC_id (by decide) (by omega)) (nJ_id (by omega))
    by_cases hn : n < 3
    · rw [if_pos (show n < σ 26 0 0 by omega)]
      unfold fPutG
      by_cases h4 : σ 5 0 0 < 4
      · rw [if_pos h4]
        unfold nObey
        rw [if_neg g1, if_neg g2, if_pos ⟨rfl, hn, by omega⟩, em, et, show 1000 + 50 * (σ 5 0 0 - 1) + 50 = 1000 + 50 * σ 5 0 0 by omega]
        exact R1_put h ⟨n0, hn⟩ h4
      · rw [if_neg h4, nObey_o g1 g2 (by omega), em]
        exact h
    · rw [if_neg (show ¬ n < σ 26 0 0 by omega), nObey_o g1 g2 (by omega), em]
      exact h
theorem nO_iff (τ : St) : nO τ = 0 ↔ nEnd τ ∨ ¬ (nK τ = 115 ∨ nK τ = 119) := by
  unfold nO
  by_cases e : nEnd τ
  · rw [if_pos e]; exact ⟨fun _ => Or.inl e, fun _ => rfl⟩
  · rw [if_neg e]
    by_cases e1 : nK τ = 115
    · rw [if_pos e1]; exact ⟨fun z => absurd z (by decide), fun z => absurd (Or.inl e1) (z.resolve_left e)⟩
    · rw [if_neg e1]
      by_cases e2 : nK τ = 119
      · rw [if_pos e2]; exact ⟨fun z => absurd z (by decide), fun z => absurd (Or.inr e2) (z.resolve_left e)⟩
      · rw [if_neg e2]; exact ⟨fun _ => Or.inr (fun z => z.elim e1 e2), fun _ => rfl⟩
/-- the line that lies ahead -/
theorem ahead {N M : Int} {σ τ : St} (hv : Inv N M σ) (h : R1 σ τ) (e : ¬ atEnd σ 0) : nK τ = kAt σ 0 ∧ nN τ = nAt σ 0 ∧ okL (kAt σ 0) (nAt σ 0) ∧ (0 ≤ kAt σ 0 ∧ kAt σ 0 < 65536) := by
  obtain ⟨q0, q1, q2, q3⟩ := top_pg h
  have b5 := h.2.1.1
  have hH := hv.H 0 (σ 5 0 0 - 1) (by decide) (by decide) (by omega) (by omega)
  unfold atEnd at e
  rw [r8] at e
  obtain ⟨q4, q5⟩ := q3 (σ 4 0 (σ 5 0 0 - 1)) (by omega) (by omega)
  have hR := (hv.R (8 + (σ 5 0 0 - 1)) (by omega) (by omega)).2 (σ 4 0 (σ 5 0 0 - 1)) (by omega) (by omega)
  unfold nK nN kAt nAt
  rw [top_eq h, q2, r8, q4, q5]
  exact ⟨rfl, rfl, hR.2 (by omega), hR.1⟩
theorem R1_line {N M : Int} {σ τ : St} (hv : Inv N M σ) (h : R1 σ τ) (c : ¬ (1 < σ 5 0 0 ∧ atEnd σ 0)) : R1 (fLine σ 0) (nDo (nHd τ)) ∧ (oLine σ 0 = 0 ↔ nO τ = 0) := by
  have h1 := R1_hd h
  have hv1 : Inv N M (ups σ 29 0 0 (σ 29 0 0 + 1)) := Inv_o29 hv
  have b5 := h.2.1.1
  unfold fLine oLine
  rw [fHead_stop c, nO_iff, ← nEnd_hd τ, ← nK_hd τ]
  have e5 : ups σ 29 0 0 (σ 29 0 0 + 1) 5 0 0 = σ 5 0 0 := ups_t _ (by decide) _ _ _ _ _
  have eE : atEnd (ups σ 29 0 0 (σ 29 0 0 + 1)) 0 ↔ atEnd σ 0 := by
    unfold atEnd
    rw [ups_t _ (show (5 : Nat) ≠ 29 by decide), ups_t _ (show (3 : Nat) ≠ 29 by decide), ups_t _ (show (4 : Nat) ≠ 29 by decide)]
  obtain ⟨κ, hκ⟩ : ∃ z, z = ups σ 29 0 0 (σ 29 0 0 + 1) := ⟨_, rfl⟩
  obtain ⟨υ, hυ⟩ : ∃ z, z = nHd τ := ⟨_, rfl⟩
  rw [← hκ] at h1 hv1 e5 eE ⊢
  rw [← hυ] at h1 ⊢
  unfold fDo oDo nDo
  by_cases e : atEnd κ 0
  · rw [if_pos e, if_pos e, if_pos ((end_iff h1).mpr e)]
    exact ⟨R1_beg h1 (by have z : ¬ 1 < σ 5 0 0 := fun z => c ⟨z, eE.mp e⟩; omega), ⟨fun _ => Or.inl ((end_iff h1).mpr e), fun _ => rfl⟩⟩
  · have en : ¬ nEnd υ := fun z => e ((end_iff h1).mp z)
    rw [if_neg e, if_neg e, if_neg en]
    obtain ⟨k1, k2, k3, k4⟩ := ahead hv1 h1 e
    have h2 := R1_49 h1 (κ 4 0 (κ 5 0 0 - 1) + 1)
    have s2 : nStep υ = ups υ 40 (nTop υ + 49) 0 (κ 4 0 (κ 5 0 0 - 1) + 1) := by
      unfold nStep
      congr 1
      rw [top_eq h1, (top_pg h1).2.2.1]
    have b1 := h1.2.1.1
    have hH := hv1.H 0 (κ 5 0 0 - 1) (by decide) (by decide) (by omega) (by omega)
    have hq := (top_pg h1).1
    have hv2 : Inv N M (fStep κ 0) := Inv_o4 hv1 (by have e9 := e; unfold atEnd at e9; rw [r8] at e9; omega)
    have t2 : nTop (nStep υ) = nTop υ := by unfold nTop nStep; rw [ups_t _ (by decide)]
    have h3 : R1 (fStep κ 0) (nStep υ) := by rw [s2]; exact h2
    have h4 := R1_obey hv2 h3 k3
    rw [k1, k2, ← t2]
    exact ⟨h4.1, h4.2.trans ⟨fun z => Or.inr z, fun z => z.resolve_left en⟩⟩
theorem R1_loop {N M : Int} : ∀ (K : Nat) (n : Int) (σ τ : St), Inv N M σ → R1 σ τ → 0 ≤ n → n ≤ 8 → 2 * (8 - n) + τ 41 0 0 < K → R1 (fLines (8 - n).toNat σ 0) (nLoop K n τ)
  | 0, n, σ, τ, hv, h, h0, h8, hK => by
    have := h.2.2.1.1
    have := h.2.1.1
    have hK : 2 * (8 - n) + τ 41 0 0 < ((0 : Nat) : Int) := hK
    omega
  | K + 1, n, σ, τ, hv, h, h0, h8, hK => by
    have e5 := h.2.2.1.1
    have b5 := h.2.1.1
    have hs := h.2.2.2.2.2
    rw [nLoop]
    by_cases c8 : n < 8
    · rw [if_pos c8]
      have e8 : (8 - n).toNat = (8 - (n + 1)).toNat + 1 := by omega
      by_cases c : nEnd τ ∧ 1 < τ 41 0 0
      · have c' : 1 < σ 5 0 0 ∧ atEnd σ 0 := ⟨by omega, (end_iff h).mp c.1⟩
        rw [if_pos c, e8, ← fLines_pop (by omega) c', ← e8]
        exact R1_loop K n (pop1 σ 0) (nPop τ) (Inv_pop1 hv c'.1) (R1_pop h c'.1) h0 h8 (by unfold nPop; rw [ups_eq]; omega)
      · have c' : ¬ (1 < σ 5 0 0 ∧ atEnd σ 0) := fun z => c ⟨(end_iff h).mpr z.2, by omega⟩
        obtain ⟨q1, q2⟩ := R1_line hv h c'
        rw [if_neg c, e8, fLines]
        by_cases o : oLine σ 0 = 0
        · rw [if_pos o, if_pos (q2.mp o)]
          exact R1_loop K (n + 1) (fLine σ 0) (nDo (nHd τ)) (Inv_fLine hv (by decide) hs.1 hs.2.2.1) q1 (by omega) (by omega) (by have := nDo_h τ; omega)
        · rw [if_neg o, if_neg (fun z => o (q2.mpr z))]
          exact q1
    · rw [if_neg c8, show (8 - n).toNat = 0 by omega]
      exact h
theorem R1_turn {N M : Int} {σ τ : St} (hv : Inv N M σ) (h : R1 σ τ) : R1 (fTurn σ 0) (nTurn τ) := by
  have e10 := h.2.2.1.2.2.1
  have e5 := h.2.2.1.1
  have b5 := h.2.1.1
  unfold fTurn nTurn
  rw [e10]
  by_cases c : 0 < σ 10 0 0
  · rw [if_pos c, if_pos c]
    exact R1_w h _
  · rw [if_neg c, if_neg c, if_neg (fun z => z h.2.2.2.2.2.2.2.1)]
    exact R1_loop 21 0 σ τ hv h (by decide) (by decide) (by show 2 * (8 - 0) + τ 41 0 0 < ((21 : Nat) : Int); omega)
theorem tick1_on {σ : St} (hq : RQ σ) (hs : RS σ) (hq' : RQ (fTurn σ 0)) (hs' : RS (fTurn σ 0)) : fTick1 σ = fTurn σ 0 := by
  obtain ⟨a1, a2, a3, a4, a5⟩ := hq
  obtain ⟨b1, b2, b3, b4, b5⟩ := hs
  obtain ⟨c1, c2, c3, c4, c5⟩ := hq'
  obtain ⟨d1, d2, d3, d4, d5⟩ := hs'
  unfold fTick1
  rw [fKs, if_pos (by omega), if_pos a4, fRow, if_pos (by omega), b5, fRow, if_neg (by omega), fKs, if_neg (by omega), fWs, if_pos (by omega), fWatch, if_neg (by omega), fWatch1, if_pos c4, fWs, if_neg (by omega)]
theorem tick1_off {σ : St} (hq : RQ σ) (h : σ 17 0 0 = 0) : fTick1 σ = σ := by
  obtain ⟨a1, a2, a3, a4, a5⟩ := hq
  unfold fTick1
  rw [fKs, if_pos (by omega), if_pos a4, fRow, if_neg (by omega), fKs, if_neg (by omega), fWs, if_pos (by omega), fWatch, if_neg (by omega), fWatch1, if_pos a4, fWs, if_neg (by omega)]
theorem R1_tick1 {N M : Int} {σ τ : St} (hv : Inv N M σ) (h : R1 σ τ) : R1 (fTick1 σ) (nTurn τ) ∧ fTick1 σ = fTurn σ 0 := by
  have h2 := R1_turn hv h
  have e := tick1_on h.2.2.2.1 h.2.2.2.2.2 h2.2.2.2.1 h2.2.2.2.2.2
  exact ⟨by rw [e]; exact h2, e⟩
theorem fTick_off {σ : St} (hq : RQ σ) (h : σ 17 0 0 = 0) : ∀ n : Nat, fTick n σ = σ
  | 0 => rfl
  | n + 1 => by rw [fTick, tick1_off hq h]; exact fTick_off hq h n
theorem fTick_S : ∀ (n : Nat) (σ : St), fTick (n + 1) σ = fTick1 (fTick n σ)
  | 0, σ => rfl
  | n + 1, σ => fTick_S n (fTick1 σ)
theorem R1_ticks {N M : Int} {σ τ : St} (hv : Inv N M σ) (h : R1 σ τ) : ∀ n : Nat, R1 (fTick n σ) (nTurns n τ)
  | 0 => h
  | n + 1 => by
    rw [fTick_S, nTurns_step]
    exact (R1_tick1 (Inv_fTick n hv) (R1_ticks hv h n)).1
-- how many lines are done
theorem fObey_29 (σ : St) (p k n : Int) : fObey σ p k n 29 = σ 29 := by
  unfold fObey
  (repeat' split) <;> first | rfl | exact fShow_T _ _ _ 29 (by decide) | exact ups_T _ _ _ _ _ 29 (by decide) | exact fLease_T _ _ _ 29 (by decide) | exact fPass_T _ _ 29 (by decide) | exact fPutG_T _ _ _ 29 (by decide) | exact fBranch_T _ _ _ _ 29 (by decide)
theorem fLine_29 (σ : St) (p : Int) : fLine σ p 29 0 0 = σ 29 0 0 + 1 := by
  have e : fHead σ p 29 0 0 = σ 29 0 0 + 1 := by
    unfold fHead
    rw [ups_eq, at1 (fPop_T σ p) (t := 29) (by decide)]
  unfold fLine fDo
  split
  · rw [at1 (fBegP_T _ p _) (t := 29) (by decide), e]
  · rw [fObey_29, fStep, ups_t _ (by decide), e]
theorem fLines_29 : ∀ (n : Nat) (σ : St) (p : Int), σ 29 0 0 ≤ fLines n σ p 29 0 0 ∧ fLines n σ p 29 0 0 ≤ σ 29 0 0 + n
  | 0, σ, p => ⟨Int.le_refl _, by show σ 29 0 0 ≤ σ 29 0 0 + ((0 : Nat) : Int); omega⟩
  | n + 1, σ, p => by
    have e := fLine_29 σ p
    rw [fLines]
    split
    · have ih := fLines_29 n (fLine σ p) p
      omega
    · omega
theorem fTurn_29 (σ : St) (p : Int) : σ 29 0 0 ≤ fTurn σ p 29 0 0 ∧ fTurn σ p 29 0 0 ≤ σ 29 0 0 + 8 := by
  unfold fTurn
  split
  · rw [ups_t _ (by decide)]; omega
  · split
    · omega
    · have := fLines_29 8 σ p
      omega
theorem ticks_29 {N M : Int} {σ τ : St} (hv : Inv N M σ) (h : R1 σ τ) : ∀ n : Nat, σ 29 0 0 ≤ fTick n σ 29 0 0 ∧ fTick n σ 29 0 0 ≤ σ 29 0 0 + 8 * n
  | 0 => ⟨Int.le_refl _, by show σ 29 0 0 ≤ σ 29 0 0 + 8 * ((0 : Nat) : Int); omega⟩
  | n + 1 => by
    have ih := ticks_29 hv h n
    rw [fTick_S, (R1_tick1 (Inv_fTick n hv) (R1_ticks hv h n)).2]
    have := fTurn_29 (fTick n σ) 0
    omega
end LMATH3
