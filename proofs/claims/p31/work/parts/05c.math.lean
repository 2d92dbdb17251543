section MATH6
theorem Inv_mono {N M N' M' : Int} {σ : St} (h : Inv N M σ) (hN : N ≤ N') (hM : M ≤ M') : Inv N' M' σ := by
  obtain ⟨a1, a2, a3, a4, a5, a6, a7, a8, a9, a10, a11, a12, a13, a14, a15⟩ := h
  refine ⟨a1, a2, a3, a4, a5, a6, a7, a8, a9, fun k x y => ?_, a11, a12, a13, a14, fun v x y => ?_⟩
  · have q := a10 k x y
    refine ⟨q.1, q.2.1, q.2.2.1, q.2.2.2.1, q.2.2.2.2.1, q.2.2.2.2.2.1, q.2.2.2.2.2.2.1, ?_⟩
    have := q.2.2.2.2.2.2.2
    omega
  · obtain ⟨q1, q2⟩ := a15 v x y
    refine ⟨q1, fun s u w => ?_⟩
    have := q2 s u w
    omega
theorem row_in {N M : Int} {σ : St} (h : Inv N M σ) {k j : Int} (hk : 0 ≤ k ∧ k < 6) (hj : 0 ≤ j ∧ j < σ 17 k 0) : (0 ≤ σ 16 k j ∧ σ 16 k j < 6) ∧ σ 6 (σ 16 k j) 0 = 1 ∧ σ 8 (σ 16 k j) 0 = k := by
  obtain ⟨a1, a2, a3⟩ := h.W k hk.1 (by omega)
  have q := a2 j hj.1 (by omega)
  have hm := (h.M k (σ 16 k j) hk.1 hk.2 q.1 (by omega)).mp ⟨j, hj.1, hj.2, rfl⟩
  have s := h.S (σ 16 k j) q.1 (by omega)
  refine ⟨by omega, ?_, hm⟩
  rcases s.1 with z | z
  · have := s.2.2.2.2 z
    omega
  · exact z
theorem Inv_fRow {N M k : Int} (hk : 0 ≤ k ∧ k < 6) : ∀ (n : Nat) {σ : St} {j : Int}, 0 ≤ j → Inv N M σ → Inv N M (fRow n σ k j)
  | 0, _, _, _, h => h
  | n + 1, σ, j, hj, h => by
    rw [fRow]
    split
    · next z =>
      obtain ⟨r1, r2, -⟩ := row_in h hk ⟨hj, z⟩
      exact Inv_fRow hk n (by omega) (Inv_fTurn h r1 r2)
    · exact h
theorem Inv_fKs {N M : Int} : ∀ (n : Nat) {σ : St} {i : Int}, 0 ≤ i → Inv N M σ → Inv N M (fKs n σ i)
  | 0, _, _, _, h => h
  | n + 1, σ, i, hi, h => by
    rw [fKs]
    have hA := h.A
    unfold IvA at hA
    split
    · refine Inv_fKs n (by omega) ?_
      split
      · exact Inv_fRow ⟨hi, by omega⟩ 6 (Int.le_refl _) h
      · exact h
    · exact h
theorem fLeave_T (σ : St) (p : Int) : ∀ t, t ∉ [8, 16, 17] → fLeave σ p t = σ t := by
  unfold fLeave
  split
  · exact id_T _ _
  · exact com (wid (rAt_T σ _ _) (by decide)) (upsW _ 8 _ _ _ (by decide))
theorem fCome_T (σ : St) (p k : Int) : ∀ t, t ∉ [8, 16, 17] → fCome σ p k t = σ t := by
  unfold fCome
  split
  · exact com (upsW _ 8 _ _ _ (by decide)) (wid (aFirst_T _ _ _) (by decide))
  split
  · exact upsW _ 8 _ _ _ (by decide)
  · exact com (upsW _ 8 _ _ _ (by decide)) (wid (aLast_T _ _ _) (by decide))
theorem fSettle_T (σ : St) (p k : Int) : ∀ t, t ∉ [8, 16, 17] → fSettle σ p k t = σ t := com (fLeave_T σ p) (fCome_T (fLeave σ p) p k)
theorem fLeave_8 (σ : St) (p q : Int) : fLeave σ p 8 q 0 = if q = p then -1 else σ 8 q 0 := by
  unfold fLeave
  split
  · next z =>
    split
    · next y => rw [y]; exact z
    · rfl
  · rw [ups_s, rAt_o _ _ _ (by decide) (by decide)]
    simp
theorem mem_rows {N M : Int} {σ : St} (h : Inv N M σ) {p : Int} (hp : 0 ≤ p ∧ p < 6) (h8 : σ 8 p 0 ≠ -1) : (0 ≤ σ 8 p 0 ∧ σ 8 p 0 < 6) ∧ mem σ (σ 8 p 0) p := by
  have s := h.S p hp.1 hp.2
  exact ⟨by omega, (h.M (σ 8 p 0) p (by omega) (by omega) hp.1 hp.2).mpr rfl⟩
theorem mem_fLeave {N M : Int} {σ : St} (h : Inv N M σ) {p : Int} (hp : 0 ≤ p ∧ p < 6) (w q : Int) : mem (fLeave σ p) w q ↔ mem σ w q ∧ ¬ (σ 8 p 0 ≠ -1 ∧ w = σ 8 p 0 ∧ q = p) := by
  unfold fLeave
  by_cases c : σ 8 p 0 = -1
  · rw [if_pos c]
    exact ⟨fun z => ⟨z, fun y => y.1 c⟩, fun z => z.1⟩
  · rw [if_neg c]
    obtain ⟨r1, r2⟩ := mem_rows h hp c
    obtain ⟨i1, i2, i3, i4⟩ := idx_spec r2
    rw [mem_T (σ := rAt σ (σ 8 p 0) (idx σ (σ 8 p 0) p)) (ups_T _ _ _ _ _ _ (by decide)) (ups_T _ _ _ _ _ _ (by decide)), mem_rAt ⟨i1, i2⟩ (h.W _ r1.1 (by omega)).2.2, i3]
    exact ⟨fun z => ⟨z.1, fun y => z.2 y.2⟩, fun z => ⟨z.1, fun y => z.2 ⟨c, y⟩⟩⟩
theorem Inv_fLeave {N M : Int} {σ : St} {p : Int} (h : Inv N M σ) (hp : 0 ≤ p ∧ p < 6) : Inv N M (fLeave σ p) := by
  have hT : ∀ t, t ∉ [8, 16, 17] → (fLeave σ p) t = σ t := fLeave_T σ p
  refine ⟨?_, ?_, ?_, ?_, ?_, ?_, ?_, ?_, ?_, ?_, ?_, ?_, ?_, ?_, ?_⟩
  · exact IvA_c (fr hT (by decide)) h.A
  · exact IvR_c (fr hT (by decide)) h.R
  · exact IvH_c (fr hT (by decide)) h.H
  · exact IvD_c (fr hT (by decide)) h.D
  · intro q a b
    have z := h.S q a b
    simp (decide := true) only [at1 hT]
    rw [fLeave_8]
    split
    · exact ⟨z.1, by omega, by omega, by omega, fun _ => rfl⟩
    · exact z
  · exact IvC_c (fr hT (by decide)) h.C
  · exact IvT_c (fr hT (by decide)) h.T
  · exact IvU_c (fr hT (by decide)) h.U
  · exact IvL_c (fr hT (by decide)) h.L
  · exact IvK_c (fr hT (by decide)) h.K
  · unfold fLeave
    split
    · exact h.W
    · next c =>
      obtain ⟨r1, r2⟩ := mem_rows h hp c
      obtain ⟨i1, i2, i3, i4⟩ := idx_spec r2
      exact IvW_c (fr (ups_T _ _ _ _ _) (by decide)) (IvW_rAt h.W ⟨i1, i2⟩)
  · intro w q a b a2 b2
    have z := h.M w q a b a2 b2
    rw [mem_fLeave h hp, fLeave_8]
    by_cases hq : q = p
    · subst hq
      rw [if_pos rfl]
      exact ⟨fun y => absurd ⟨by have := z.mp y.1; omega, (z.mp y.1).symm, rfl⟩ y.2, fun y => absurd y (by omega)⟩
    · rw [if_neg hq]
      exact ⟨fun y => z.mp y.1, fun y => ⟨z.mpr y, fun t => hq t.2.2⟩⟩
  · intro d q a b a2 b2
    have z := h.Q d q a b a2 b2
    rw [mem_fLeave h hp, at1 hT (by decide), at1 hT (by decide)]
    have s := h.S p hp.1 hp.2
    exact ⟨fun y => z.mp y.1, fun y => ⟨z.mpr y, fun t => by omega⟩⟩
  · exact IvO_c (fr hT (by decide)) h.O
  · exact IvV_c (fr hT (by decide)) h.V
theorem fCome_8 (σ : St) (p k q : Int) : fCome σ p k 8 q 0 = if q = p then k else σ 8 q 0 := by
  unfold fCome
  split
  · rw [aFirst_o _ _ _ (by decide) (by decide), ups_s]; simp
  split
  · rw [ups_s]; simp
  · rw [aLast_o _ _ _ (by decide) (by decide), ups_s]; simp
theorem mem_fCome {σ : St} (hW : IvW σ) {p k : Int} (hk : k = -1 ∨ (0 ≤ k ∧ k < 6)) (hp : 0 ≤ p ∧ p < 6) (w q : Int) : mem (fCome σ p k) w q ↔ mem σ w q ∨ (k ≠ -1 ∧ w = k ∧ q = p) := by
  have e : ∀ w q, mem (ups σ 8 p 0 k) w q ↔ mem σ w q := fun w q => mem_T (ups_T _ _ _ _ _ _ (by decide)) (ups_T _ _ _ _ _ _ (by decide)) w q
  unfold fCome
  split
  · next c =>
    rw [mem_aFirst (by rw [ups_t _ (by decide)]; exact (hW k (by omega) (by omega)).1.1), e]
    constructor
    · rintro (y | y)
      · exact Or.inl y
      · exact Or.inr ⟨by omega, y⟩
    · rintro (y | y)
      · exact Or.inl y
      · exact Or.inr y.2
  split
  · next c1 c2 =>
    rw [e]
    exact ⟨Or.inl, fun y => y.resolve_right (fun t => t.1 c2)⟩
  · next c1 c2 =>
    rw [mem_aLast (by rw [ups_t _ (by decide)]; exact (hW k (by omega) (by omega)).1.1), e]
    constructor
    · rintro (y | y)
      · exact Or.inl y
      · exact Or.inr ⟨c2, y⟩
    · rintro (y | y)
      · exact Or.inl y
      · exact Or.inr y.2
theorem Inv_fCome {N M : Int} {σ : St} {p k : Int} (h : Inv N M σ) (hp : 0 ≤ p ∧ p < 6) (hs : σ 6 p 0 = 1) (h8 : σ 8 p 0 = -1) (hk : k = -1 ∨ (0 ≤ k ∧ k < σ 27 0 0)) : Inv N M (fCome σ p k) := by
  have hT : ∀ t, t ∉ [8, 16, 17] → (fCome σ p k) t = σ t := fCome_T σ p k
  have hA := h.A
  unfold IvA at hA
  refine ⟨?_, ?_, ?_, ?_, ?_, ?_, ?_, ?_, ?_, ?_, ?_, ?_, ?_, ?_, ?_⟩
  · exact IvA_c (fr hT (by decide)) h.A
  · exact IvR_c (fr hT (by decide)) h.R
  · exact IvH_c (fr hT (by decide)) h.H
  · exact IvD_c (fr hT (by decide)) h.D
  · intro q a b
    have z := h.S q a b
    simp (decide := true) only [at1 hT]
    rw [fCome_8]
    split
    · next y =>
      subst y
      exact ⟨z.1, by omega, by omega, by omega, fun t => by omega⟩
    · exact z
  · exact IvC_c (fr hT (by decide)) h.C
  · exact IvT_c (fr hT (by decide)) h.T
  · exact IvU_c (fr hT (by decide)) h.U
  · exact IvL_c (fr hT (by decide)) h.L
  · exact IvK_c (fr hT (by decide)) h.K
  · have hW1 : IvW (ups σ 8 p 0 k) := IvW_c (fr (ups_T _ _ _ _ _) (by decide)) h.W
    have e : ∀ w q, mem (ups σ 8 p 0 k) w q ↔ mem σ w q := fun w q => mem_T (ups_T _ _ _ _ _ _ (by decide)) (ups_T _ _ _ _ _ _ (by decide)) w q
    unfold fCome
    split
    · next c =>
      have hn : ¬ mem (ups σ 8 p 0 k) k p := fun z => by have := (h.M k p (by omega) (by omega) hp.1 hp.2).mp ((e k p).mp z); omega
      exact IvW_aFirst hW1 (by omega) (room hW1 (by omega) (by omega) hn) hn
    split
    · exact hW1
    · have hn : ¬ mem (ups σ 8 p 0 k) k p := fun z => by have := (h.M k p (by omega) (by omega) hp.1 hp.2).mp ((e k p).mp z); omega
      exact IvW_aLast hW1 (by omega) (room hW1 (by omega) (by omega) hn) hn
  · intro w q a b a2 b2
    have z := h.M w q a b a2 b2
    rw [mem_fCome h.W (by omega) hp, fCome_8]
    by_cases hq : q = p
    · subst hq
      rw [if_pos rfl]
      constructor
      · rintro (y | y)
        · have := z.mp y; omega
        · exact y.2.1.symm
      · intro y
        exact Or.inr ⟨by omega, y.symm, rfl⟩
    · rw [if_neg hq]
      exact ⟨fun y => z.mp (y.resolve_right (fun t => hq t.2.2)), fun y => Or.inl (z.mpr y)⟩
  · intro d q a b a2 b2
    have z := h.Q d q a b a2 b2
    rw [mem_fCome h.W (by omega) hp, at1 hT (by decide), at1 hT (by decide)]
    exact ⟨fun y => z.mp (y.resolve_right (fun t => by omega)), fun y => Or.inl (z.mpr y)⟩
  · exact IvO_c (fr hT (by decide)) h.O
  · exact IvV_c (fr hT (by decide)) h.V
theorem Inv_fSettle {N M : Int} {σ : St} {p k : Int} (h : Inv N M σ) (hp : 0 ≤ p ∧ p < 6) (hs : σ 6 p 0 = 1) (hk : k = -1 ∨ (0 ≤ k ∧ k < σ 27 0 0)) : Inv N M (fSettle σ p k) :=
  Inv_fCome (Inv_fLeave h hp) hp (by rw [at1 (fLeave_T σ p) (by decide)]; exact hs) (by rw [fLeave_8, if_pos rfl]) (by rw [at1 (fLeave_T σ p) (by decide)]; exact hk)
theorem room_of {N M : Int} {σ : St} (h : Inv N M σ) {p k : Int} (hp : 0 ≤ p ∧ p < 6) (hk : 0 ≤ k ∧ k < 6) (h8 : σ 8 p 0 ≠ k) : σ 17 k 0 < 6 :=
  room h.W ⟨hk.1, by omega⟩ ⟨hp.1, by omega⟩ (fun z => h8 ((h.M k p hk.1 hk.2 hp.1 hp.2).mp z))
theorem nearN_spec (σ : St) (k : Int) : ∀ n : Nat, nearN σ k n = -1 ∨ (0 ≤ nearN σ k n ∧ nearN σ k n < n ∧ σ 13 (nearN σ k n) 0 = 0)
  | 0 => Or.inl rfl
  | n + 1 => by
    rw [nearN]
    split
    · next z => exact Or.inr ⟨by omega, by omega, z.1⟩
    · rcases nearN_spec σ k n with z | z
      · exact Or.inl z
      · exact Or.inr ⟨z.1, by omega, z.2.2⟩
theorem near_spec {σ : St} (h : 0 ≤ σ 27 0 0) (k : Int) : near σ k = -1 ∨ (0 ≤ near σ k ∧ near σ k < σ 27 0 0 ∧ σ 13 (near σ k) 0 = 0) := by
  rcases nearN_spec σ k (σ 27 0 0).toNat with z | z
  · exact Or.inl z
  · exact Or.inr ⟨z.1, by have := z.2.1; unfold near; omega, z.2.2⟩
theorem near_T {σ σ' : St} (h1 : σ' 13 = σ 13) (h2 : σ' 27 = σ 27) (k : Int) : near σ' k = near σ k := by
  unfold near
  rw [h2]
  have : ∀ n : Nat, nearN σ' k n = nearN σ k n := fun n => by
    induction n with
    | zero => rfl
    | succ n ih => rw [nearN, nearN, ih, h1]
  exact this _
theorem fSettle_sz {N M : Int} {σ : St} (h : Inv N M σ) {p k r : Int} (hp : 0 ≤ p ∧ p < 6) (h8 : σ 8 p 0 = k) (hk : 0 ≤ k ∧ k < 6) (hr : r ≠ k) : fSettle σ p r 17 k 0 = σ 17 k 0 - 1 := by
  have e : fLeave σ p 17 k 0 = σ 17 k 0 - 1 := by
    unfold fLeave
    rw [if_neg (by omega), ups_t _ (by decide), h8, rAt_sz]
  unfold fSettle fCome
  split
  · rw [aFirst_szo _ (by omega), ups_t _ (by decide), e]
  split
  · rw [ups_t _ (by decide), e]
  · rw [aLast_szo _ (by omega), ups_t _ (by decide), e]
theorem fMove_T : ∀ (n : Nat) (σ : St) (k r : Int), ∀ t, t ∉ [8, 16, 17] → fMove n σ k r t = σ t
  | 0, σ, k, r => id_T _ _
  | n + 1, σ, k, r => com (fSettle_T σ _ r) (fMove_T n _ k r)
theorem Inv_fMove {N M k r : Int} (hk : 0 ≤ k ∧ k < 6) (hr : r ≠ k) : ∀ (n : Nat) {σ : St}, Inv N M σ → σ 17 k 0 = n → (r = -1 ∨ (0 ≤ r ∧ r < σ 27 0 0)) → Inv N M (fMove n σ k r)
  | 0, _, h, _, _ => h
  | n + 1, σ, h, hn, hr2 => by
    obtain ⟨a1, a2, a3⟩ := row_in h hk (j := 0) ⟨Int.le_refl _, by omega⟩
    exact Inv_fMove hk hr n (Inv_fSettle h a1 a2 hr2) (by rw [fSettle_sz h a1 a3 hk hr]; omega) (by rw [at1 (fSettle_T σ _ r) (by decide)]; exact hr2)
theorem near_ne (σ : St) (k : Int) (hk : 0 ≤ k) (h : 0 ≤ σ 27 0 0) : near (ups σ 13 k 0 1) k ≠ k := by
  intro z
  rcases near_spec (σ := ups σ 13 k 0 1) (by rw [ups_t _ (by decide)]; exact h) k with y | y
  · omega
  · rw [z, ups_eq] at y
    exact absurd y.2.2 (by decide)
theorem fWatch1_T (σ : St) (k : Int) : ∀ t, t ∉ [14, 23] → fWatch1 σ k t = σ t := by
  unfold fWatch1
  split
  · exact id_T _ _
  split
  · exact com (upsW _ 14 _ _ _ (by decide)) (upsW _ 23 _ _ _ (by decide))
  · exact upsW _ 23 _ _ _ (by decide)
theorem fOut_T (σ : St) (k : Int) : ∀ t, t ∉ [8, 13, 16, 17] → fOut σ k t = σ t := com (upsW σ 13 k 0 1 (by decide)) (wid (fMove_T _ _ _ _) (by decide))
theorem fWatch_T (σ : St) (k : Int) : ∀ t, t ∉ [8, 13, 14, 16, 17, 23] → fWatch σ k t = σ t := by
  unfold fWatch
  split
  · exact com (wid (fWatch1_T σ k) (by decide)) (wid (fOut_T _ _) (by decide))
  · exact wid (fWatch1_T σ k) (by decide)
theorem Inv_fWatch {N M : Int} {σ : St} {k : Int} (h : Inv N M σ) (hk : 0 ≤ k ∧ k < σ 27 0 0) : Inv N (M + 1) (fWatch σ k) := by
  have hA := h.A
  unfold IvA at hA
  have kk := h.K k hk.1 (by omega)
  unfold fWatch
  split
  · next z =>
    have e1 : fWatch1 σ k = ups (ups σ 14 k 0 (σ 14 k 0 + 1)) 23 k 0 (σ 23 k 0 + 1) := by
      unfold fWatch1
      rw [if_neg z.1, if_pos z.2.1]
    have hT : ∀ t, t ∉ [13, 14, 23] → ups (fWatch1 σ k) 13 k 0 1 t = σ t := com (wid (fWatch1_T σ k) (by decide)) (upsW _ 13 _ _ _ (by decide))
    have h2 : Inv N (M + 1) (ups (fWatch1 σ k) 13 k 0 1) := by
      refine ⟨IvA_c (fr hT (by decide)) h.A, IvR_c (fr hT (by decide)) h.R, IvH_c (fr hT (by decide)) h.H, IvD_c (fr hT (by decide)) h.D, IvS_c (fr hT (by decide)) h.S, IvC_c (fr hT (by decide)) h.C, IvT_c (fr hT (by decide)) h.T, IvU_c (fr hT (by decide)) h.U, IvL_c (fr hT (by decide)) h.L, ?_, IvW_c (fr hT (by decide)) h.W, IvM_c (fr hT (by decide)) h.M, IvQ_c (fr hT (by decide)) h.Q, IvO_c (fr hT (by decide)) h.O, IvV_c (fr hT (by decide)) h.V⟩
      intro x a b
      obtain ⟨c1, c2, c3, c4, c5, c6, c7, c8⟩ := h.K x a b
      simp (decide := true) only [at1 hT]
      rw [e1]
      simp (decide := true) only [ups_s, ups_t, eq_self_iff_true, and_true, ↓reduceIte]
      by_cases hx : x = k
      · simp only [if_pos hx]
        subst hx
        refine ⟨?_, ?_, ?_, ?_, ?_, ?_, ?_, ?_⟩ <;> first | omega | simp | (simp; omega) | (intro u; omega)
      · simp only [if_neg hx]
        omega
    unfold fOut
    have e2 : fWatch1 σ k 17 k 0 = σ 17 k 0 := at1 (fWatch1_T σ k) (by decide) _ _
    have e3 : fWatch1 σ k 27 0 0 = σ 27 0 0 := at1 (fWatch1_T σ k) (by decide) _ _
    have sz := (h.W k hk.1 (by omega)).1
    refine Inv_fMove ⟨hk.1, by omega⟩ (near_ne _ k hk.1 (by omega)) _ h2 ?_ ?_
    · rw [ups_t _ (by decide), e2]; omega
    · rcases near_spec (σ := ups (fWatch1 σ k) 13 k 0 1) (by rw [ups_t _ (by decide)]; omega) k with y | y
      · exact Or.inl y
      · exact Or.inr ⟨y.1, y.2.1⟩
  · next z =>
    have hT : ∀ t, t ∉ [14, 23] → fWatch1 σ k t = σ t := fWatch1_T σ k
    refine ⟨IvA_c (fr hT (by decide)) h.A, IvR_c (fr hT (by decide)) h.R, IvH_c (fr hT (by decide)) h.H, IvD_c (fr hT (by decide)) h.D, IvS_c (fr hT (by decide)) h.S, IvC_c (fr hT (by decide)) h.C, IvT_c (fr hT (by decide)) h.T, IvU_c (fr hT (by decide)) h.U, IvL_c (fr hT (by decide)) h.L, ?_, IvW_c (fr hT (by decide)) h.W, IvM_c (fr hT (by decide)) h.M, IvQ_c (fr hT (by decide)) h.Q, IvO_c (fr hT (by decide)) h.O, IvV_c (fr hT (by decide)) h.V⟩
    intro x a b
    obtain ⟨c1, c2, c3, c4, c5, c6, c7, c8⟩ := h.K x a b
    simp (decide := true) only [at1 hT]
    unfold fWatch1
    split
    · omega
    split
    · simp (decide := true) only [ups_s, ups_t, eq_self_iff_true, and_true, ↓reduceIte]
      by_cases hx : x = k
      · simp only [if_pos hx]
        subst hx
        refine ⟨?_, ?_, ?_, ?_, ?_, ?_, ?_, ?_⟩ <;> first | omega | simp | (simp; omega) | (intro u; omega)
      · simp only [if_neg hx]
        omega
    · simp (decide := true) only [ups_s, ups_t, eq_self_iff_true, and_true, ↓reduceIte]
      by_cases hx : x = k
      · simp only [if_pos hx]
        subst hx
        refine ⟨?_, ?_, ?_, ?_, ?_, ?_, ?_, ?_⟩ <;> first | omega | simp | (simp; omega) | (intro u; omega)
      · simp only [if_neg hx]
        omega
theorem Inv_fWs {N : Int} : ∀ (n : Nat) {M : Int} {σ : St} {i : Int}, 0 ≤ i → Inv N M σ → Inv N (M + n) (fWs n σ i)
  | 0, M, σ, i, _, h => Inv_mono h (Int.le_refl _) (by omega)
  | n + 1, M, σ, i, hi, h => by
    rw [fWs]
    split
    · next z =>
      have := Inv_fWs n (M := M + 1) (i := i + 1) (by omega) (Inv_fWatch h ⟨hi, z⟩)
      exact Inv_mono this (Int.le_refl _) (by omega)
    · exact Inv_mono h (Int.le_refl _) (by omega)
theorem Inv_fTick1 {N M : Int} {σ : St} (h : Inv N M σ) : Inv N (M + 6) (fTick1 σ) := Inv_fWs 6 (Int.le_refl _) (Inv_fKs 6 (Int.le_refl _) h)
theorem Inv_fTick {N : Int} : ∀ (n : Nat) {M : Int} {σ : St}, Inv N M σ → Inv N (M + 6 * n) (fTick n σ)
  | 0, M, σ, h => Inv_mono h (Int.le_refl _) (by omega)
  | n + 1, M, σ, h => Inv_mono (Inv_fTick n (Inv_fTick1 h)) (Int.le_refl _) (by omega)
theorem beg6 (σ : St) (p r : Int) : ∀ t, t ∉ [6, 7, 9, 10, 11, 25] → ups (ups (ups (ups (ups (ups σ 6 p 0 1) 7 p 0 r) 9 p 0 0) 10 p 0 0) 11 p 0 (-1)) 25 p 0 (-1) t = σ t :=
  com (com (com (com (com (upsW _ 6 _ _ _ (by decide)) (upsW _ 7 _ _ _ (by decide))) (upsW _ 9 _ _ _ (by decide))) (upsW _ 10 _ _ _ (by decide))) (upsW _ 11 _ _ _ (by decide))) (upsW _ 25 _ _ _ (by decide))
theorem fBegin_T (σ : St) (p r : Int) : ∀ t, t ∉ [1, 2, 3, 4, 5, 6, 7, 9, 10, 11, 24, 25] → fBegin σ p r t = σ t := com (wid (beg6 σ p r) (by decide)) (wid (fBegP_T _ p r) (by decide))
theorem held_0 {N M : Int} {σ : St} (h : Inv N M σ) {p : Int} (hp : 0 ≤ p ∧ p < 6) (h6 : σ 6 p 0 = 0) : (∀ d : Int, 0 ≤ d → d < 6 → σ 18 d 0 ≠ p) ∧ held σ p = 0 := by
  have hn : ∀ d : Int, 0 ≤ d → d < 6 → σ 18 d 0 ≠ p := fun d a b z => by
    have := (h.O.1 d a b).2 (by omega)
    rw [z] at this
    omega
  refine ⟨hn, ?_⟩
  have h1 := cN_rng (fun d => decide (σ 18 d 0 = p)) (i := 6) (by decide)
  have h2 := cN_pos (fun d => decide (σ 18 d 0 = p)) (n := 6) (by decide)
  unfold held
  rcases Int.lt_or_le 0 (cN (fun d => decide (σ 18 d 0 = p)) 6) with z | z
  · obtain ⟨j, a, b, c⟩ := h2.mp z
    exact absurd (of_decide_eq_true c) (hn j a b)
  · omega
theorem Inv_fBegin {N M : Int} {σ : St} {p r : Int} (h : Inv N M σ) (hp : 0 ≤ p ∧ p < 6) (hr : 0 ≤ r ∧ r < 8) (hr2 : r < σ 26 0 0) (h6 : σ 6 p 0 = 0) : Inv N M (fBegin σ p r) := by
  have hT : ∀ t, t ∉ [1, 2, 3, 4, 5, 6, 7, 9, 10, 11, 24, 25] → (fBegin σ p r) t = σ t := fBegin_T σ p r
  have v6 : ∀ q : Int, fBegin σ p r 6 q 0 = if q = p then 1 else σ 6 q 0 := fun q => by
    unfold fBegin
    rw [at1 (fBegP_T _ p r) (by decide), ups_t _ (by decide), ups_t _ (by decide), ups_t _ (by decide), ups_t _ (by decide), ups_t _ (by decide), ups_s]
    simp
  have v11 : ∀ q : Int, fBegin σ p r 11 q 0 = if q = p then -1 else σ 11 q 0 := fun q => by
    unfold fBegin
    rw [at1 (fBegP_T _ p r) (by decide), ups_t _ (by decide), ups_s, ups_t _ (by decide), ups_t _ (by decide), ups_t _ (by decide), ups_t _ (by decide)]
    simp
  refine ⟨?_, ?_, ?_, ?_, ?_, ?_, ?_, ?_, ?_, ?_, ?_, ?_, ?_, ?_, ?_⟩
  · exact IvA_c (fr hT (by decide)) h.A
  · unfold fBegin fBegP
    exact put_R (IvR_c (fr (T := [5, 6, 7, 9, 10, 11, 25]) (com (wid (beg6 σ p r) (by decide)) (upsW _ 5 _ _ _ (by decide))) (by decide)) h.R) hp hr (by rw [ups_eq]; omega)
  · unfold fBegin fBegP
    exact put_H (IvH_c (fr (T := [5, 6, 7, 9, 10, 11, 25]) (com (wid (beg6 σ p r) (by decide)) (upsW _ 5 _ _ _ (by decide))) (by decide)) h.H) p r
  · intro q a b
    obtain ⟨c1, c2⟩ := h.D q a b
    rw [v6]
    unfold fBegin fBegP
    rw [put_5, put_24]
    simp (decide := true) only [ups_s, ups_t, eq_self_iff_true, and_true, ↓reduceIte]
    by_cases hq : q = p
    · simp only [if_pos hq, if_true]
      exact ⟨by omega, fun _ => ⟨by omega, by omega⟩⟩
    · simp only [if_neg hq]
      exact ⟨c1, c2⟩
  · intro q a b
    have z := h.S q a b
    rw [v6]
    simp (decide := true) only [at1 hT]
    by_cases hq : q = p
    · subst hq
      rw [if_pos rfl]
      exact ⟨Or.inr rfl, by omega, by omega, by omega, fun y => by omega⟩
    · rw [if_neg hq]
      exact z
  · intro q a b
    unfold fBegin
    rw [at1 (fBegP_T _ p r) (by decide), ups_t _ (by decide), ups_t _ (by decide), ups_t _ (by decide), ups_s, ups_t _ (by decide), ups_t _ (by decide)]
    split
    · omega
    · exact h.C q a b
  · intro q a b
    unfold fBegin
    rw [at1 (fBegP_T _ p r) (by decide), ups_t _ (by decide), ups_t _ (by decide), ups_s, ups_t _ (by decide), ups_t _ (by decide), ups_t _ (by decide)]
    split
    · omega
    · exact h.T q a b
  · intro q a b
    have z := h.U q a b
    rw [v6, v11]
    unfold fBegin
    rw [at1 (fBegP_T _ p r) (by decide), ups_s, ups_t _ (by decide), ups_t _ (by decide), ups_t _ (by decide), ups_t _ (by decide), ups_t _ (by decide)]
    by_cases hq : q = p
    · subst hq
      rw [if_pos rfl, if_pos ⟨rfl, rfl⟩, if_pos rfl]
      exact ⟨by omega, by omega, fun _ => rfl⟩
    · rw [if_neg hq, if_neg (fun y => hq y.1), if_neg hq]
      exact z
  · intro q a b
    obtain ⟨c1, c2⟩ := h.L q a b
    rw [v6, at1 hT (t := 26) (by decide)]
    unfold fBegin fBegP
    rw [put_7, ups_eq]
    simp (decide := true) only [ups_s, ups_t, eq_self_iff_true, and_true, ↓reduceIte]
    by_cases hq : q = p
    · simp only [if_pos hq]
      exact ⟨hr, fun _ => hr2⟩
    · simp only [if_neg hq]
      exact ⟨c1, c2⟩
  · exact IvK_c (fr hT (by decide)) h.K
  · exact IvW_c (fr hT (by decide)) h.W
  · exact IvM_c (fr hT (by decide)) h.M
  · intro d q a b a2 b2
    have z := h.Q d q a b a2 b2
    rw [mem_T (hT 16 (by decide)) (hT 17 (by decide)), v6, v11]
    by_cases hq : q = p
    · subst hq
      rw [if_pos rfl, if_pos rfl]
      exact ⟨fun y => by have := (z.mp y).1; omega, fun y => by omega⟩
    · rw [if_neg hq, if_neg hq]
      exact z
  · obtain ⟨n1, n2⟩ := held_0 h hp h6
    refine ⟨fun d a b => ?_, fun q a b hq => ?_⟩
    · obtain ⟨c1, c2⟩ := h.O.1 d a b
      rw [at1 hT (by decide), v6]
      refine ⟨c1, fun y => ?_⟩
      split
      · rfl
      · exact c2 y
    · rw [v6] at hq
      rw [held_T (hT 18 (by decide)), v11, hT 18 (by decide)]
      by_cases hqp : q = p
      · subst hqp
        rw [if_pos rfl, n2]
        exact ⟨by decide, fun y => absurd rfl y⟩
      · rw [if_neg hqp] at hq ⊢
        exact h.O.2 q a b hq
  · exact IvV_c (fr hT (by decide)) h.V
theorem fBegin_6 (σ : St) (p r : Int) : fBegin σ p r 6 p 0 = 1 := by
  unfold fBegin
  rw [at1 (fBegP_T _ p r) (by decide), ups_t _ (by decide), ups_t _ (by decide), ups_t _ (by decide), ups_t _ (by decide), ups_t _ (by decide), ups_eq]
theorem Inv_fStart {N M : Int} {σ : St} {k r : Int} (h : Inv N M σ) (hk : 0 ≤ k ∧ k < 6) (hr : 0 ≤ r ∧ r < 8) (hr2 : r < σ 26 0 0) (h6 : σ 6 k 0 = 0) : Inv N M (fStart σ k r) := by
  have hA := h.A
  unfold IvA at hA
  have s := h.S k hk.1 hk.2
  refine Inv_fCome (Inv_fBegin h hk hr hr2 h6) hk (fBegin_6 σ k r) ?_ ?_
  · rw [at1 (fBegin_T σ k r) (by decide)]; exact s.2.2.2.2 h6
  · rw [at1 (fBegin_T σ k r) (by decide)]
    rcases near_spec (σ := σ) (by omega) k with y | y
    · exact Or.inl y
    · exact Or.inr ⟨y.1, y.2.1⟩
theorem fUnq_T (σ : St) (k : Int) : ∀ t, t ∉ [11, 16, 17, 25] → fUnq σ k t = σ t := by
  unfold fUnq
  split
  · exact id_T _ _
  · exact com (com (wid (rAt_T _ _ _) (by decide)) (upsW _ 11 _ _ _ (by decide))) (upsW _ 25 _ _ _ (by decide))
theorem queue_in {N M : Int} {σ : St} (h : Inv N M σ) {k : Int} (hk : 0 ≤ k ∧ k < 6) (h6 : σ 6 k 0 = 1) (hw : σ 25 k 0 ≠ -1) : (0 ≤ σ 25 k 0 ∧ σ 25 k 0 < 6) ∧ σ 25 k 0 = σ 11 k 0 ∧ mem σ (6 + σ 25 k 0) k := by
  have u := h.U k hk.1 hk.2
  have e := u.2.2 h6
  exact ⟨by omega, e, (h.Q (σ 25 k 0) k (by omega) (by omega) hk.1 hk.2).mpr ⟨h6, e.symm⟩⟩
theorem Inv_fUnq {N M : Int} {σ : St} {k : Int} (h : Inv N M σ) (hk : 0 ≤ k ∧ k < 6) (h6 : σ 6 k 0 = 1) : Inv N M (fUnq σ k) := by
  have hT : ∀ t, t ∉ [11, 16, 17, 25] → (fUnq σ k) t = σ t := fUnq_T σ k
  have v11 : ∀ q : Int, fUnq σ k 11 q 0 = if q = k then -1 else σ 11 q 0 := fun q => by
    unfold fUnq
    split
    · next y =>
      split
      · next t => rw [t, ← (h.U k hk.1 hk.2).2.2 h6]; exact y
      · rfl
    · rw [ups_t _ (by decide), ups_s, rAt_o _ _ _ (by decide) (by decide)]; simp
  have hmem : ∀ w q : Int, mem (fUnq σ k) w q ↔ mem σ w q ∧ ¬ (σ 25 k 0 ≠ -1 ∧ w = 6 + σ 25 k 0 ∧ q = k) := fun w q => by
    unfold fUnq
    by_cases c : σ 25 k 0 = -1
    · rw [if_pos c]
      exact ⟨fun z => ⟨z, fun y => y.1 c⟩, fun z => z.1⟩
    · rw [if_neg c]
      obtain ⟨r1, r2, r3⟩ := queue_in h hk h6 c
      obtain ⟨i1, i2, i3, i4⟩ := idx_spec r3
      have hT2 : ∀ t, t ∉ [11, 25] → ups (ups (rAt σ (6 + σ 25 k 0) (idx σ (6 + σ 25 k 0) k)) 11 k 0 (-1)) 25 k 0 (-1) t = rAt σ (6 + σ 25 k 0) (idx σ (6 + σ 25 k 0) k) t := com (upsW _ 11 _ _ _ (by decide)) (upsW _ 25 _ _ _ (by decide))
      rw [mem_T (hT2 16 (by decide)) (hT2 17 (by decide)), mem_rAt ⟨i1, i2⟩ (h.W _ (by omega) (by omega)).2.2, i3]
      exact ⟨fun z => ⟨z.1, fun y => z.2 y.2⟩, fun z => ⟨z.1, fun y => z.2 ⟨c, y⟩⟩⟩
  refine ⟨?_, ?_, ?_, ?_, ?_, ?_, ?_, ?_, ?_, ?_, ?_, ?_, ?_, ?_, ?_⟩
  · exact IvA_c (fr hT (by decide)) h.A
  · exact IvR_c (fr hT (by decide)) h.R
  · exact IvH_c (fr hT (by decide)) h.H
  · exact IvD_c (fr hT (by decide)) h.D
  · exact IvS_c (fr hT (by decide)) h.S
  · exact IvC_c (fr hT (by decide)) h.C
  · exact IvT_c (fr hT (by decide)) h.T
  · intro q a b
    have z := h.U q a b
    rw [v11]
    simp (decide := true) only [at1 hT]
    have v25 : fUnq σ k 25 q 0 = if q = k then -1 else σ 25 q 0 := by
      unfold fUnq
      split
      · next y =>
        split
        · next t => rw [t]; exact y
        · rfl
      · rw [ups_s, ups_t _ (by decide), rAt_o _ _ _ (by decide) (by decide)]; simp
    rw [v25]
    split
    · exact ⟨by omega, by omega, fun _ => rfl⟩
    · exact z
  · exact IvL_c (fr hT (by decide)) h.L
  · exact IvK_c (fr hT (by decide)) h.K
  · unfold fUnq
    split
    · exact h.W
    · next c =>
      obtain ⟨r1, r2, r3⟩ := queue_in h hk h6 c
      obtain ⟨i1, i2, i3, i4⟩ := idx_spec r3
      exact IvW_c (σ := rAt σ (6 + σ 25 k 0) (idx σ (6 + σ 25 k 0) k)) (fr (T := [11, 25]) (com (upsW _ 11 _ _ _ (by decide)) (upsW _ 25 _ _ _ (by decide))) (by decide)) (IvW_rAt h.W ⟨i1, i2⟩)
  · intro w q a b a2 b2
    have z := h.M w q a b a2 b2
    have u := h.U k hk.1 hk.2
    rw [hmem, at1 hT (by decide)]
    exact ⟨fun y => z.mp y.1, fun y => ⟨z.mpr y, fun t => by omega⟩⟩
  · intro d q a b a2 b2
    have z := h.Q d q a b a2 b2
    have u := h.U k hk.1 hk.2
    have e := u.2.2 h6
    rw [hmem, at1 hT (by decide), v11]
    by_cases hq : q = k
    · subst hq
      rw [if_pos rfl]
      exact ⟨fun y => absurd ⟨by have := (z.mp y.1).2; omega, by have := (z.mp y.1).2; omega, rfl⟩ y.2, fun y => by omega⟩
    · rw [if_neg hq]
      exact ⟨fun y => z.mp y.1, fun y => ⟨z.mpr y, fun t => hq t.2.2⟩⟩
  · refine ⟨fun d a b => ?_, fun q a b hq => ?_⟩
    · rw [at1 hT (by decide), at1 hT (by decide)]
      exact h.O.1 d a b
    · rw [at1 hT (by decide)] at hq
      obtain ⟨c1, c2⟩ := h.O.2 q a b hq
      rw [held_T (hT 18 (by decide)), v11, hT 18 (by decide)]
      split
      · exact ⟨c1, fun y => absurd rfl y⟩
      · exact ⟨c1, c2⟩
  · exact IvV_c (fr hT (by decide)) h.V
theorem fUnq_11 {N M : Int} {σ : St} (h : Inv N M σ) {k : Int} (hk : 0 ≤ k ∧ k < 6) (h6 : σ 6 k 0 = 1) : fUnq σ k 11 k 0 = -1 := by
  unfold fUnq
  split
  · next y => rw [← (h.U k hk.1 hk.2).2.2 h6]; exact y
  · rw [ups_t _ (by decide), ups_eq]
theorem fFrees_T : ∀ (n : Nat) (σ : St) (k : Int), ∀ t, t ∉ [11, 16, 17, 18, 25] → fFrees n σ k t = σ t
  | 0, σ, k => id_T _ _
  | n + 1, σ, k => by
    rw [fFrees]
    split
    · exact com (fFrees_T n σ k) (fPass_T _ _)
    · exact fFrees_T n σ k
/-- a device passed on goes to one who waits, or to none -/
theorem fPass_18 {N M : Int} {σ : St} (h : Inv N M σ) {d k : Int} (hd : 0 ≤ d ∧ d < 6) (hk : 0 ≤ k ∧ k < 6) (hw : σ 11 k 0 = -1) : fPass σ d 18 d 0 ≠ k ∧ fPass σ d 11 k 0 = -1 ∧ ∀ x : Int, x ≠ d → fPass σ d 18 x 0 = σ 18 x 0 := by
  have hsz := (h.W (6 + d) (by omega) (by omega)).1
  unfold fPass
  split
  · refine ⟨by rw [ups_eq]; omega, by rw [ups_t _ (by decide)]; exact hw, fun x hx => ups_i _ _ _ hx _ _ _⟩
  · next c =>
    have y5 := (h.W (6 + d) (by omega) (by omega)).2.1 0 (by omega) (by omega)
    have y4 := ((h.Q d _ hd.1 hd.2 y5.1 (by omega)).mp ⟨0, by omega, by omega, rfl⟩).2
    refine ⟨?_, ?_, fun x hx => ?_⟩
    · rw [ups_t _ (by decide), ups_t _ (by decide), ups_eq]
      exact fun z => by rw [z] at y4; omega
    · rw [ups_t _ (by decide), ups_s, ups_t _ (by decide), rAt_o _ _ _ (by decide) (by decide)]
      split
      · rfl
      · exact hw
    · rw [ups_t _ (by decide), ups_t _ (by decide), ups_i _ _ _ hx, rAt_o _ _ _ (by decide) (by decide)]
theorem Inv_fFrees {N M k : Int} (hk : 0 ≤ k ∧ k < 6) : ∀ (n : Nat), n ≤ 6 → ∀ {σ : St}, Inv N M σ → σ 11 k 0 = -1 → Inv N M (fFrees n σ k) ∧ fFrees n σ k 11 k 0 = -1 ∧ (∀ d : Int, 0 ≤ d → d < n → fFrees n σ k 18 d 0 ≠ k) ∧ ∀ d : Int, (n : Int) ≤ d → fFrees n σ k 18 d 0 = σ 18 d 0
  | 0, _, σ, h, hw => ⟨h, hw, fun d a b => by omega, fun _ _ => rfl⟩
  | n + 1, hn, σ, h, hw => by
    obtain ⟨a1, a2, a3, a4⟩ := Inv_fFrees hk n (by omega) h hw
    rw [fFrees]
    split
    · obtain ⟨b1, b2, b3⟩ := fPass_18 a1 (d := n) (by omega) hk a2
      refine ⟨Inv_fPass a1 (by omega), b2, fun d x y => ?_, fun d x => ?_⟩
      · by_cases hd : d = n
        · subst hd; exact b1
        · rw [b3 d hd]; exact a3 d x (by omega)
      · rw [b3 d (by omega)]; exact a4 d (by omega)
    · next z =>
      refine ⟨a1, a2, fun d x y => ?_, fun d x => a4 d (by omega)⟩
      by_cases hd : d = n
      · subst hd; exact z
      · exact a3 d x (by omega)
theorem Inv_off {N M : Int} {σ : St} {k : Int} (h : Inv N M σ) (hk : 0 ≤ k ∧ k < 6) (h8 : σ 8 k 0 = -1) (h11 : σ 11 k 0 = -1) (ho : ∀ d : Int, 0 ≤ d → d < 6 → σ 18 d 0 ≠ k) : Inv N M (ups σ 6 k 0 0) := by
  have hT : ∀ t, t ∉ [6] → (ups σ 6 k 0 0) t = σ t := ups_T _ _ _ _ _
  refine ⟨?_, ?_, ?_, ?_, ?_, ?_, ?_, ?_, ?_, ?_, ?_, ?_, ?_, ?_, ?_⟩
  · exact IvA_c (fr hT (by decide)) h.A
  · exact IvR_c (fr hT (by decide)) h.R
  · exact IvH_c (fr hT (by decide)) h.H
  · intro q a b
    obtain ⟨c1, c2⟩ := h.D q a b
    simp (decide := true) only [ups_s, ups_t, eq_self_iff_true, and_true, ↓reduceIte]
    split
    · exact ⟨c1, fun y => by omega⟩
    · exact ⟨c1, c2⟩
  · intro q a b
    have z := h.S q a b
    simp (decide := true) only [ups_s, ups_t, eq_self_iff_true, and_true, ↓reduceIte]
    split
    · next y => rw [y, h8]; exact ⟨Or.inl rfl, by omega, by omega, by have := h.S k hk.1 hk.2; omega, fun _ => rfl⟩
    · exact z
  · exact IvC_c (fr hT (by decide)) h.C
  · exact IvT_c (fr hT (by decide)) h.T
  · intro q a b
    have z := h.U q a b
    simp (decide := true) only [ups_s, ups_t, eq_self_iff_true, and_true, ↓reduceIte]
    split
    · exact ⟨z.1, z.2.1, fun y => by omega⟩
    · exact z
  · intro q a b
    have z := h.L q a b
    simp (decide := true) only [ups_s, ups_t, eq_self_iff_true, and_true, ↓reduceIte]
    split
    · exact ⟨z.1, fun y => by omega⟩
    · exact z
  · exact IvK_c (fr hT (by decide)) h.K
  · exact IvW_c (fr hT (by decide)) h.W
  · exact IvM_c (fr hT (by decide)) h.M
  · intro d q a b a2 b2
    have z := h.Q d q a b a2 b2
    rw [mem_T (hT 16 (by decide)) (hT 17 (by decide))]
    simp (decide := true) only [ups_s, ups_t, eq_self_iff_true, and_true, ↓reduceIte]
    split
    · next y =>
      rw [y] at z ⊢
      exact ⟨fun t => by have := (z.mp t).2; omega, fun t => by omega⟩
    · exact z
  · refine ⟨fun d a b => ?_, fun q a b hq => ?_⟩
    · obtain ⟨c1, c2⟩ := h.O.1 d a b
      rw [ups_t _ (by decide), ups_s, if_neg (fun y => ho d a b y.1)]
      exact ⟨c1, c2⟩
    · rw [ups_s] at hq
      rw [held_T (hT 18 (by decide)), ups_t _ (by decide), hT 18 (by decide)]
      split at hq
      · omega
      · exact h.O.2 q a b hq
  · exact IvV_c (fr hT (by decide)) h.V
theorem Inv_keep {N M : Int} {σ : St} {k v : Int} (h : Inv N M σ) (hk : 0 ≤ k ∧ k < 6) (h6 : σ 6 k 0 = 0) (hv : -1 ≤ v ∧ v ≤ 5) : Inv N M (ups σ 11 k 0 v) := by
  have hT : ∀ t, t ∉ [11] → (ups σ 11 k 0 v) t = σ t := ups_T _ _ _ _ _
  refine ⟨?_, ?_, ?_, ?_, ?_, ?_, ?_, ?_, ?_, ?_, ?_, ?_, ?_, ?_, ?_⟩
  · exact IvA_c (fr hT (by decide)) h.A
  · exact IvR_c (fr hT (by decide)) h.R
  · exact IvH_c (fr hT (by decide)) h.H
  · exact IvD_c (fr hT (by decide)) h.D
  · exact IvS_c (fr hT (by decide)) h.S
  · exact IvC_c (fr hT (by decide)) h.C
  · exact IvT_c (fr hT (by decide)) h.T
  · intro q a b
    have z := h.U q a b
    simp (decide := true) only [ups_s, ups_t, eq_self_iff_true, and_true, ↓reduceIte]
    split
    · next y => rw [y] at z ⊢; exact ⟨hv, z.2.1, fun t => by omega⟩
    · exact z
  · exact IvL_c (fr hT (by decide)) h.L
  · exact IvK_c (fr hT (by decide)) h.K
  · exact IvW_c (fr hT (by decide)) h.W
  · exact IvM_c (fr hT (by decide)) h.M
  · intro d q a b a2 b2
    have z := h.Q d q a b a2 b2
    rw [mem_T (hT 16 (by decide)) (hT 17 (by decide))]
    simp (decide := true) only [ups_s, ups_t, eq_self_iff_true, and_true, ↓reduceIte]
    split
    · next y => rw [y] at z ⊢; exact ⟨fun t => by have := (z.mp t).1; omega, fun t => by omega⟩
    · exact z
  · refine ⟨fun d a b => ?_, fun q a b hq => ?_⟩
    · rw [ups_t _ (by decide), ups_t _ (by decide)]
      exact h.O.1 d a b
    · rw [ups_t _ (by decide)] at hq
      rw [held_T (hT 18 (by decide)), hT 18 (by decide), ups_s, if_neg (fun y => by rw [y.1] at hq; omega)]
      exact h.O.2 q a b hq
  · exact IvV_c (fr hT (by decide)) h.V
theorem Inv_fStop {N M : Int} {σ : St} {k : Int} (h : Inv N M σ) (hk : 0 ≤ k ∧ k < 6) (h6 : σ 6 k 0 = 1) : Inv N M (fStop σ k) := by
  obtain ⟨a1, a2, a3, -⟩ := Inv_fFrees hk 6 (Nat.le_refl _) (Inv_fUnq h hk h6) (fUnq_11 h hk h6)
  have u := h.U k hk.1 hk.2
  refine Inv_keep (Inv_off (Inv_fLeave a1 hk) hk ?_ ?_ (fun d x y => ?_)) hk ?_ u.1
  · rw [fLeave_8, if_pos rfl]
  · rw [at1 (fLeave_T _ k) (by decide)]; exact a2
  · rw [at1 (fLeave_T _ k) (by decide)]; exact a3 d x y
  · rw [ups_eq]
theorem fThaw0_T (σ : St) (k : Int) : ∀ t, t ∉ [12, 13, 14, 23] → fThaw0 σ k t = σ t := com (com (com (upsW _ 12 _ _ _ (by decide)) (upsW _ 14 _ _ _ (by decide))) (upsW _ 13 _ _ _ (by decide))) (upsW _ 23 _ _ _ (by decide))
theorem Inv_fThaw0 {N M : Int} {σ : St} {k : Int} (h : Inv N M σ) (hM : 0 ≤ M) : Inv N M (fThaw0 σ k) := by
  have hT : ∀ t, t ∉ [12, 13, 14, 23] → (fThaw0 σ k) t = σ t := fThaw0_T σ k
  refine ⟨?_, ?_, ?_, ?_, ?_, ?_, ?_, ?_, ?_, ?_, ?_, ?_, ?_, ?_, ?_⟩
  · exact IvA_c (fr hT (by decide)) h.A
  · exact IvR_c (fr hT (by decide)) h.R
  · exact IvH_c (fr hT (by decide)) h.H
  · exact IvD_c (fr hT (by decide)) h.D
  · exact IvS_c (fr hT (by decide)) h.S
  · exact IvC_c (fr hT (by decide)) h.C
  · exact IvT_c (fr hT (by decide)) h.T
  · exact IvU_c (fr hT (by decide)) h.U
  · exact IvL_c (fr hT (by decide)) h.L
  · intro x a b
    obtain ⟨c1, c2, c3, c4, c5, c6, c7, c8⟩ := h.K x a b
    rw [at1 hT (t := 15) (by decide)]
    unfold fThaw0
    simp (decide := true) only [ups_s, ups_t, eq_self_iff_true, and_true, ↓reduceIte]
    by_cases hx : x = k
    · simp only [if_pos hx]
      refine ⟨?_, ?_, ?_, ?_, ?_, ?_, ?_, ?_⟩ <;> first | omega | simp | (simp; omega) | (intro u; omega)
    · simp only [if_neg hx]
      exact ⟨c1, c2, c3, c4, c5, c6, c7, c8⟩
  · exact IvW_c (fr hT (by decide)) h.W
  · exact IvM_c (fr hT (by decide)) h.M
  · exact IvQ_c (fr hT (by decide)) h.Q
  · exact IvO_c (fr hT (by decide)) h.O
  · exact IvV_c (fr hT (by decide)) h.V
theorem fThaw1_T (σ : St) (k : Int) : ∀ t, t ∉ [8, 16, 17] → fThaw1 σ k t = σ t := by
  unfold fThaw1
  split
  · exact id_T _ _
  · exact fSettle_T _ _ _
theorem fGather_T : ∀ (n : Nat) (σ : St) (k : Int), ∀ t, t ∉ [8, 16, 17] → fGather n σ k t = σ t
  | 0, σ, k => id_T _ _
  | n + 1, σ, k => by
    rw [fGather]
    split
    · exact com (fGather_T n σ k) (fCome_T _ _ _)
    · exact fGather_T n σ k
theorem Inv_fThaw1 {N M : Int} {σ : St} {k : Int} (h : Inv N M σ) (hk : 0 ≤ k ∧ k < σ 27 0 0) : Inv N M (fThaw1 σ k) := by
  have hA := h.A
  unfold IvA at hA
  unfold fThaw1
  split
  · exact h
  · next z =>
    have s := h.S k hk.1 (by omega)
    exact Inv_fSettle h ⟨hk.1, by omega⟩ (s.1.resolve_left z) (Or.inr hk)
theorem Inv_fGather {N M k : Int} : ∀ (n : Nat), n ≤ 6 → ∀ {σ : St}, Inv N M σ → 0 ≤ k → k < σ 27 0 0 → Inv N M (fGather n σ k)
  | 0, _, σ, h, _, _ => h
  | n + 1, hn, σ, h, hk, hk2 => by
    have ih := Inv_fGather n (by omega) h hk hk2
    rw [fGather]
    split
    · next z =>
      have s := ih.S n (by omega) (by omega)
      exact Inv_fCome ih (by omega) (s.1.resolve_left z.1) z.2 (Or.inr ⟨hk, by rw [at1 (fGather_T n σ k) (by decide)]; exact hk2⟩)
    · exact ih
theorem Inv_fThaw {N M : Int} {σ : St} {k : Int} (h : Inv N M σ) (hM : 0 ≤ M) (hk : 0 ≤ k ∧ k < σ 27 0 0) : Inv N M (fThaw σ k) := by
  have hA := h.A
  unfold IvA at hA
  unfold fThaw
  split
  · exact Inv_fThaw0 h hM
  · refine Inv_fGather _ (by omega) (Inv_fThaw1 (Inv_fThaw0 h hM) ?_) hk.1 ?_
    · rw [at1 (fThaw0_T σ k) (by decide)]; exact hk
    · rw [at1 (fThaw1_T _ k) (by decide), at1 (fThaw0_T σ k) (by decide)]; exact hk.2
end MATH6
