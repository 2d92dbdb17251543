section MATH12
theorem Inv_list {N M : Int} {σ : St} (h : Inv N M σ) (h1 : σ 26 0 0 < 8) : Inv N M (ups σ 26 0 0 (σ 26 0 0 + 1)) := by
  have hT : ∀ t, t ∉ [26] → ups σ 26 0 0 (σ 26 0 0 + 1) t = σ t := ups_T _ _ _ _ _
  refine ⟨?_, ?_, ?_, ?_, ?_, ?_, ?_, ?_, ?_, ?_, ?_, ?_, ?_, ?_, ?_⟩
  · have q := h.A
    unfold IvA at q ⊢
    rw [ups_eq, ups_t _ (show (27 : Nat) ≠ 26 by decide), ups_t _ (show (28 : Nat) ≠ 26 by decide)]
    omega
  · exact IvR_c (fr hT (by decide)) h.R
  · exact IvH_c (fr hT (by decide)) h.H
  · exact IvD_c (fr hT (by decide)) h.D
  · exact IvS_c (fr hT (by decide)) h.S
  · exact IvC_c (fr hT (by decide)) h.C
  · exact IvT_c (fr hT (by decide)) h.T
  · exact IvU_c (fr hT (by decide)) h.U
  · intro p a b
    have q := h.L p a b
    simp only [ups_t _ (show (7 : Nat) ≠ 26 by decide), ups_t _ (show (6 : Nat) ≠ 26 by decide), ups_eq]
    exact ⟨q.1, fun z => by have := q.2 z; omega⟩
  · exact IvK_c (fr hT (by decide)) h.K
  · exact IvW_c (fr hT (by decide)) h.W
  · exact IvM_c (fr hT (by decide)) h.M
  · exact IvQ_c (fr hT (by decide)) h.Q
  · exact IvO_c (fr hT (by decide)) h.O
  · exact IvV_c (fr hT (by decide)) h.V
theorem Inv_kiosk {N M : Int} {σ : St} (h : Inv N M σ) (h1 : σ 27 0 0 < 6) : Inv N M (ups σ 27 0 0 (σ 27 0 0 + 1)) := by
  have hT : ∀ t, t ∉ [27] → ups σ 27 0 0 (σ 27 0 0 + 1) t = σ t := ups_T _ _ _ _ _
  refine ⟨?_, ?_, ?_, ?_, ?_, ?_, ?_, ?_, ?_, ?_, ?_, ?_, ?_, ?_, ?_⟩
  · have q := h.A
    unfold IvA at q ⊢
    rw [ups_t _ (show (26 : Nat) ≠ 27 by decide), ups_eq, ups_t _ (show (28 : Nat) ≠ 27 by decide)]
    omega
  · exact IvR_c (fr hT (by decide)) h.R
  · exact IvH_c (fr hT (by decide)) h.H
  · exact IvD_c (fr hT (by decide)) h.D
  · intro p a b
    have q := h.S p a b
    simp only [ups_t _ (show (6 : Nat) ≠ 27 by decide), ups_t _ (show (8 : Nat) ≠ 27 by decide), ups_eq]
    exact ⟨q.1, q.2.1, q.2.2.1, by have := q.2.2.2.1; omega, q.2.2.2.2⟩
  · exact IvC_c (fr hT (by decide)) h.C
  · exact IvT_c (fr hT (by decide)) h.T
  · exact IvU_c (fr hT (by decide)) h.U
  · exact IvL_c (fr hT (by decide)) h.L
  · exact IvK_c (fr hT (by decide)) h.K
  · exact IvW_c (fr hT (by decide)) h.W
  · exact IvM_c (fr hT (by decide)) h.M
  · exact IvQ_c (fr hT (by decide)) h.Q
  · exact IvO_c (fr hT (by decide)) h.O
  · intro v a b
    have q := h.V v a b
    simp only [ups_t _ (show (19 : Nat) ≠ 27 by decide), ups_t _ (show (20 : Nat) ≠ 27 by decide), ups_t _ (show (21 : Nat) ≠ 27 by decide), ups_t _ (show (22 : Nat) ≠ 27 by decide), ups_eq]
    exact ⟨⟨q.1.1, q.1.2.1, by have := q.1.2.2; omega⟩, q.2⟩
theorem Inv_visitor {N M : Int} {σ : St} (h : Inv N M σ) (h1 : σ 28 0 0 < 10) : Inv N M (ups σ 28 0 0 (σ 28 0 0 + 1)) := by
  have hT : ∀ t, t ∉ [28] → ups σ 28 0 0 (σ 28 0 0 + 1) t = σ t := ups_T _ _ _ _ _
  refine ⟨?_, ?_, ?_, ?_, ?_, ?_, ?_, ?_, ?_, ?_, ?_, ?_, ?_, ?_, ?_⟩
  · have q := h.A
    unfold IvA at q ⊢
    rw [ups_t _ (show (26 : Nat) ≠ 28 by decide), ups_t _ (show (27 : Nat) ≠ 28 by decide), ups_eq]
    omega
  · exact IvR_c (fr hT (by decide)) h.R
  · exact IvH_c (fr hT (by decide)) h.H
  · exact IvD_c (fr hT (by decide)) h.D
  · exact IvS_c (fr hT (by decide)) h.S
  · exact IvC_c (fr hT (by decide)) h.C
  · exact IvT_c (fr hT (by decide)) h.T
  · exact IvU_c (fr hT (by decide)) h.U
  · exact IvL_c (fr hT (by decide)) h.L
  · exact IvK_c (fr hT (by decide)) h.K
  · exact IvW_c (fr hT (by decide)) h.W
  · exact IvM_c (fr hT (by decide)) h.M
  · exact IvQ_c (fr hT (by decide)) h.Q
  · exact IvO_c (fr hT (by decide)) h.O
  · exact IvV_c (fr hT (by decide)) h.V
theorem fIns_T (σ : St) (r place k n : Int) : ∀ t, t ∉ [1, 2, 3] → fIns σ r place k n t = σ t := fun t ht => by
  funext i j
  have h1 : t ≠ 1 := fun z => ht (by rw [z]; decide)
  have h2 : t ≠ 2 := fun z => ht (by rw [z]; decide)
  have h3 : t ≠ 3 := fun z => ht (by rw [z]; decide)
  rw [fIns, ups_t _ h3, ups_t _ h2, ups_t _ h1, insP_o _ _ _ h1 h2]
theorem fRem_T (σ : St) (r place : Int) : ∀ t, t ∉ [1, 2, 3] → fRem σ r place t = σ t := fun t ht => by
  funext i j
  have h1 : t ≠ 1 := fun z => ht (by rw [z]; decide)
  have h2 : t ≠ 2 := fun z => ht (by rw [z]; decide)
  have h3 : t ≠ 3 := fun z => ht (by rw [z]; decide)
  rw [fRem, remP_o _ _ _ _ h1 h2, ups_t _ h3]
theorem Inv_fIns {N M : Int} {σ : St} {a place k n : Int} (h : Inv N M σ) (ha : 0 ≤ a ∧ a < 8) (hp : 0 ≤ place ∧ place ≤ σ 3 a 0) (hk : 0 ≤ k ∧ k < 65536) (hok : okL k n) (h20 : σ 3 a 0 < 20) : Inv N M (fIns σ a place k n) := by
  have hT : ∀ t, t ∉ [1, 2, 3] → fIns σ a place k n t = σ t := fIns_T σ a place k n
  refine ⟨?_, ?_, ?_, ?_, ?_, ?_, ?_, ?_, ?_, ?_, ?_, ?_, ?_, ?_, ?_⟩
  · exact IvA_c (fr hT (by decide)) h.A
  · intro r a1 b1
    obtain ⟨q1, q2⟩ := h.R r a1 b1
    by_cases hr : r = a
    · subst hr
      have e3 : fIns σ r place k n 3 r 0 = σ 3 r 0 + 1 := by rw [fIns, ups_eq]
      rw [e3]
      refine ⟨by omega, fun j a2 b2 => ?_⟩
      rw [fIns, ups_t _ (show (1 : Nat) ≠ 3 by decide), ups_t _ (show (2 : Nat) ≠ 3 by decide), ups_t _ (show (1 : Nat) ≠ 2 by decide)]
      by_cases hj : j = place
      · subst hj
        rw [ups_eq, ups_eq]
        exact ⟨hk, fun _ => hok⟩
      · rw [ups_j _ _ _ hj, ups_j _ _ _ hj, ups_t _ (show (2 : Nat) ≠ 1 by decide)]
        unfold insP
        by_cases hm : place < j ∧ j ≤ σ 3 r 0
        · rw [if_pos ⟨Or.inl rfl, rfl, hm.1, hm.2⟩, if_pos ⟨Or.inr rfl, rfl, hm.1, hm.2⟩]
          have q := q2 (j - 1) (by omega) (by omega)
          exact ⟨q.1, fun z => q.2 (by omega)⟩
        · rw [if_neg (fun z => hm ⟨z.2.2.1, z.2.2.2⟩), if_neg (fun z => hm ⟨z.2.2.1, z.2.2.2⟩)]
          have q := q2 j a2 b2
          exact ⟨q.1, fun z => q.2 (by omega)⟩
    · have e : ∀ (t : Nat) (j : Int), fIns σ a place k n t r j = σ t r j := fun t j => by
        rw [fIns, ups_i _ _ _ hr, ups_i _ _ _ hr, ups_i _ _ _ hr]
        unfold insP
        rw [if_neg (fun z => hr z.2.1)]
      simp only [e]
      exact ⟨q1, q2⟩
  · exact IvH_c (fr hT (by decide)) h.H
  · exact IvD_c (fr hT (by decide)) h.D
  · exact IvS_c (fr hT (by decide)) h.S
  · exact IvC_c (fr hT (by decide)) h.C
  · exact IvT_c (fr hT (by decide)) h.T
  · exact IvU_c (fr hT (by decide)) h.U
  · exact IvL_c (fr hT (by decide)) h.L
  · exact IvK_c (fr hT (by decide)) h.K
  · exact IvW_c (fr hT (by decide)) h.W
  · exact IvM_c (fr hT (by decide)) h.M
  · exact IvQ_c (fr hT (by decide)) h.Q
  · exact IvO_c (fr hT (by decide)) h.O
  · exact IvV_c (fr hT (by decide)) h.V
theorem Inv_fRem {N M : Int} {σ : St} {a place : Int} (h : Inv N M σ) (ha : 0 ≤ a ∧ a < 8) (hp : 0 ≤ place ∧ place < σ 3 a 0) : Inv N M (fRem σ a place) := by
  have hT : ∀ t, t ∉ [1, 2, 3] → fRem σ a place t = σ t := fRem_T σ a place
  refine ⟨?_, ?_, ?_, ?_, ?_, ?_, ?_, ?_, ?_, ?_, ?_, ?_, ?_, ?_, ?_⟩
  · exact IvA_c (fr hT (by decide)) h.A
  · intro r a1 b1
    obtain ⟨q1, q2⟩ := h.R r a1 b1
    by_cases hr : r = a
    · subst hr
      have e3 : fRem σ r place 3 r 0 = σ 3 r 0 - 1 := by rw [fRem, remP_o _ _ _ _ (by decide) (by decide), ups_eq]
      rw [e3]
      refine ⟨by omega, fun j a2 b2 => ?_⟩
      rw [fRem]
      unfold remP
      by_cases hm : place ≤ j ∧ j < σ 3 r 0 - 1
      · rw [if_pos ⟨Or.inl rfl, rfl, hm.1, hm.2⟩, if_pos ⟨Or.inr rfl, rfl, hm.1, hm.2⟩, ups_t _ (show (1 : Nat) ≠ 3 by decide), ups_t _ (show (2 : Nat) ≠ 3 by decide)]
        have q := q2 (j + 1) (by omega) (by omega)
        exact ⟨q.1, fun z => q.2 (by omega)⟩
      · rw [if_neg (fun z => hm ⟨z.2.2.1, z.2.2.2⟩), if_neg (fun z => hm ⟨z.2.2.1, z.2.2.2⟩), ups_t _ (show (1 : Nat) ≠ 3 by decide), ups_t _ (show (2 : Nat) ≠ 3 by decide)]
        have q := q2 j a2 b2
        exact ⟨q.1, fun z => q.2 (by omega)⟩
    · have e : ∀ (t : Nat) (j : Int), fRem σ a place t r j = σ t r j := fun t j => by
        rw [fRem]
        unfold remP
        rw [if_neg (fun z => hr z.2.1), ups_i _ _ _ hr]
      simp only [e]
      exact ⟨q1, q2⟩
  · exact IvH_c (fr hT (by decide)) h.H
  · exact IvD_c (fr hT (by decide)) h.D
  · exact IvS_c (fr hT (by decide)) h.S
  · exact IvC_c (fr hT (by decide)) h.C
  · exact IvT_c (fr hT (by decide)) h.T
  · exact IvU_c (fr hT (by decide)) h.U
  · exact IvL_c (fr hT (by decide)) h.L
  · exact IvK_c (fr hT (by decide)) h.K
  · exact IvW_c (fr hT (by decide)) h.W
  · exact IvM_c (fr hT (by decide)) h.M
  · exact IvQ_c (fr hT (by decide)) h.Q
  · exact IvO_c (fr hT (by decide)) h.O
  · exact IvV_c (fr hT (by decide)) h.V
theorem Inv_frz {N M : Int} {σ : St} {k : Int} (h : Inv N M σ) : Inv N M (ups σ 12 k 0 1) := by
  have hT : ∀ t, t ∉ [12] → ups σ 12 k 0 1 t = σ t := ups_T _ _ _ _ _
  refine ⟨?_, ?_, ?_, ?_, ?_, ?_, ?_, ?_, ?_, ?_, ?_, ?_, ?_, ?_, ?_⟩
  · exact IvA_c (fr hT (by decide)) h.A
  · exact IvR_c (fr hT (by decide)) h.R
  · exact IvH_c (fr hT (by decide)) h.H
  · exact IvD_c (fr hT (by decide)) h.D
  · exact IvS_c (fr hT (by decide)) h.S
  · exact IvC_c (fr hT (by decide)) h.C
  · exact IvT_c (fr hT (by decide)) h.T
  · exact IvU_c (fr hT (by decide)) h.U
  · exact IvL_c (fr hT (by decide)) h.L
  · intro p a b
    have q := h.K p a b
    simp only [ups_t _ (show (13 : Nat) ≠ 12 by decide), ups_t _ (show (14 : Nat) ≠ 12 by decide), ups_t _ (show (15 : Nat) ≠ 12 by decide), ups_t _ (show (23 : Nat) ≠ 12 by decide)]
    by_cases hp : p = k
    · subst hp
      rw [ups_eq]
      exact ⟨Or.inr rfl, q.2.1, fun _ => rfl, q.2.2.2.1, fun z => absurd z (by decide), q.2.2.2.2.2.1, q.2.2.2.2.2.2.1, q.2.2.2.2.2.2.2⟩
    · rw [ups_i _ _ _ hp]
      exact q
  · exact IvW_c (fr hT (by decide)) h.W
  · exact IvM_c (fr hT (by decide)) h.M
  · exact IvQ_c (fr hT (by decide)) h.Q
  · exact IvO_c (fr hT (by decide)) h.O
  · exact IvV_c (fr hT (by decide)) h.V
theorem Inv_go {N M : Int} {σ : St} {v k : Int} (h : Inv N M σ) (hk : k = -1 ∨ (0 ≤ k ∧ k < σ 27 0 0)) : Inv N M (ups σ 22 v 0 k) := by
  have hT : ∀ t, t ∉ [22] → ups σ 22 v 0 k t = σ t := ups_T _ _ _ _ _
  refine ⟨?_, ?_, ?_, ?_, ?_, ?_, ?_, ?_, ?_, ?_, ?_, ?_, ?_, ?_, ?_⟩
  · exact IvA_c (fr hT (by decide)) h.A
  · exact IvR_c (fr hT (by decide)) h.R
  · exact IvH_c (fr hT (by decide)) h.H
  · exact IvD_c (fr hT (by decide)) h.D
  · exact IvS_c (fr hT (by decide)) h.S
  · exact IvC_c (fr hT (by decide)) h.C
  · exact IvT_c (fr hT (by decide)) h.T
  · exact IvU_c (fr hT (by decide)) h.U
  · exact IvL_c (fr hT (by decide)) h.L
  · exact IvK_c (fr hT (by decide)) h.K
  · exact IvW_c (fr hT (by decide)) h.W
  · exact IvM_c (fr hT (by decide)) h.M
  · exact IvQ_c (fr hT (by decide)) h.Q
  · exact IvO_c (fr hT (by decide)) h.O
  · intro w a b
    have q := h.V w a b
    have hA := h.A
    unfold IvA at hA
    simp only [ups_t _ (show (19 : Nat) ≠ 22 by decide), ups_t _ (show (20 : Nat) ≠ 22 by decide), ups_t _ (show (21 : Nat) ≠ 22 by decide), ups_t _ (show (27 : Nat) ≠ 22 by decide)]
    refine ⟨?_, q.2⟩
    by_cases hp : w = v
    · subst hp
      rw [ups_eq]
      omega
    · rw [ups_i _ _ _ hp]
      exact q.1
theorem Inv_ask {N M : Int} {σ : St} {v n : Int} (h : Inv N M σ) : Inv (N + 1) M (ups (ups σ 21 v n 1) 20 v n (σ 20 v n + 1)) := by
  have hT : ∀ t, t ∉ [20, 21] → ups (ups σ 21 v n 1) 20 v n (σ 20 v n + 1) t = σ t := com (upsW _ 21 _ _ _ (by decide)) (upsW _ 20 _ _ _ (by decide))
  refine ⟨?_, ?_, ?_, ?_, ?_, ?_, ?_, ?_, ?_, ?_, ?_, ?_, ?_, ?_, ?_⟩
  · exact IvA_c (fr hT (by decide)) h.A
  · exact IvR_c (fr hT (by decide)) h.R
  · exact IvH_c (fr hT (by decide)) h.H
  · exact IvD_c (fr hT (by decide)) h.D
  · exact IvS_c (fr hT (by decide)) h.S
  · exact IvC_c (fr hT (by decide)) h.C
  · exact IvT_c (fr hT (by decide)) h.T
  · exact IvU_c (fr hT (by decide)) h.U
  · exact IvL_c (fr hT (by decide)) h.L
  · exact IvK_c (fr hT (by decide)) h.K
  · exact IvW_c (fr hT (by decide)) h.W
  · exact IvM_c (fr hT (by decide)) h.M
  · exact IvQ_c (fr hT (by decide)) h.Q
  · exact IvO_c (fr hT (by decide)) h.O
  · intro w a b
    obtain ⟨q1, q2⟩ := h.V w a b
    simp only [ups_t _ (show (19 : Nat) ≠ 20 by decide), ups_t _ (show (19 : Nat) ≠ 21 by decide), ups_t _ (show (21 : Nat) ≠ 20 by decide), ups_t _ (show (22 : Nat) ≠ 20 by decide), ups_t _ (show (22 : Nat) ≠ 21 by decide), ups_t _ (show (27 : Nat) ≠ 20 by decide), ups_t _ (show (27 : Nat) ≠ 21 by decide)]
    refine ⟨q1, fun s a2 b2 => ?_⟩
    have q := q2 s a2 b2
    by_cases hx : w = v ∧ s = n
    · obtain ⟨rfl, rfl⟩ := hx
      rw [ups_eq, ups_eq]
      omega
    · have e1 : ups (ups σ 21 v n 1) 20 v n (σ 20 v n + 1) 20 w s = σ 20 w s := by
        unfold ups
        rw [if_neg (fun z => hx z.2), if_neg (fun z => hx z.2)]
      have e2 : ups σ 21 v n 1 21 w s = σ 21 w s := by
        unfold ups
        rw [if_neg (fun z => hx z.2)]
      rw [e1, e2]
      omega
/-- behind a call: the call's own end, or the code of what it threw -/
def stp (c : Int) (P τ : St) : St := if c = 0 then P else ups τ 31 0 0 c
theorem stp_0 (P τ : St) : stp 0 P τ = P := if_pos rfl
theorem stp_1 {c : Int} (h : c ≠ 0) (P τ : St) : stp c P τ = ups τ 31 0 0 c := if_neg h
theorem fRow_T : ∀ (n : Nat) (σ : St) (k j : Int), ∀ t, t ∉ TT → fRow n σ k j t = σ t
  | 0, σ, k, j => id_T _ _
  | n + 1, σ, k, j => by
    rw [fRow]
    split
    · exact com (fTurn_T σ _) (fRow_T n _ k (j + 1))
    · exact id_T _ _
theorem fKs_T : ∀ (n : Nat) (σ : St) (i : Int), ∀ t, t ∉ TT → fKs n σ i t = σ t
  | 0, σ, i => id_T _ _
  | n + 1, σ, i => by
    rw [fKs]
    split
    · refine com ?_ (fKs_T n _ (i + 1))
      split
      · exact fRow_T 6 σ i 0
      · exact id_T _ _
    · exact id_T _ _
theorem fTick_31 : ∀ (n : Nat) (σ : St), fTick n σ 31 = σ 31
  | 0, σ => rfl
  | n + 1, σ => by
    rw [fTick, fTick_31 n, fTick1, fWs_T 6 _ 0 31 (by decide), fKs_T 6 σ 0 31 (by decide)]
theorem fStart_31 (σ : St) (k r : Int) : fStart σ k r 31 = σ 31 := by rw [fStart, fCome_T _ _ _ 31 (by decide), fBegin_T _ _ _ 31 (by decide)]
theorem fStop_31 (σ : St) (k : Int) : fStop σ k 31 = σ 31 := by rw [fStop, ups_T _ _ _ _ _ 31 (by decide), ups_T _ _ _ _ _ 31 (by decide), fLeave_T _ _ 31 (by decide), fFrees_T _ _ _ 31 (by decide), fUnq_T _ _ 31 (by decide)]
theorem fThaw_31 (σ : St) (k : Int) : fThaw σ k 31 = σ 31 := by
  unfold fThaw
  split
  · exact fThaw0_T σ k 31 (by decide)
  · rw [fGather_T _ _ _ 31 (by decide), fThaw1_T _ _ 31 (by decide), fThaw0_T σ k 31 (by decide)]
theorem stp_31 {c : Int} {P τ : St} (h0 : τ 31 0 0 = 0) (h : c = 0 → P 31 = τ 31) : stp c P τ 31 0 0 = c := by
  unfold stp
  split
  · next z => rw [h z, h0, z]
  · exact ups_eq _ _ _ _ _
theorem stp_Inv {c N M N' M' : Int} {P τ : St} (hv : Inv N M τ) (hN : N ≤ N') (hM : M ≤ M') (h : c = 0 → Inv N' M' P) : Inv N' M' (stp c P τ) := by
  unfold stp
  split
  · next z => exact h z
  · exact Inv_o31 (Inv_mono hv hN hM)
end MATH12
