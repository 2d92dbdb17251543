section MATH12
/-- the second object's numbers while it takes one out of the queue that it waits in, from the end on -/
def unM (σ : St) (k i : Int) : St := if idx σ (6 + σ 25 k 0) k ≤ i then σ else ups (rAt σ (6 + σ 25 k 0) (idx σ (6 + σ 25 k 0) k)) 25 k 0 (-1)
theorem unM_rd (σ : St) {k i : Int} (h : i < σ 17 (6 + σ 25 k 0) 0) (hj : 0 ≤ i) : unM σ k i 16 (6 + σ 25 k 0) i = σ 16 (6 + σ 25 k 0) i := by
  unfold unM
  split
  · rfl
  · rw [ups_t _ (by decide), rAt_lo _ _ (by omega)]
theorem unM_in {σ : St} {k i : Int} (h : idx σ (6 + σ 25 k 0) k ≤ i) : unM σ k i = σ := by
  unfold unM
  rw [if_pos h]
theorem unM_at {σ : St} {k i : Int} (h : i = idx σ (6 + σ 25 k 0) k) (hk : σ 16 (6 + σ 25 k 0) i = k) : ups (rAt σ (6 + σ 25 k 0) i) 25 (σ 16 (6 + σ 25 k 0) i) 0 (-1) = unM σ k (i + -1) := by
  unfold unM
  rw [if_neg (by omega), hk, ← h]
theorem unM_go {σ : St} {k i : Int} (h : i ≠ idx σ (6 + σ 25 k 0) k) : unM σ k i = unM σ k (i + -1) := by
  unfold unM
  by_cases c : idx σ (6 + σ 25 k 0) k ≤ i
  · rw [if_pos c, if_pos (by omega)]
  · rw [if_neg c, if_neg (by omega)]
theorem unM_end {Dg : va_G} {cA : Nat → ClassId} {ad : Nat → Int → Nat} {H : Heap} {σ : St} {k i : Int} (hW : WP Dg mcnt ad (mE cA ad (unM σ k i)) H) (hi : i < idx σ (6 + σ 25 k 0) k) (hw : σ 25 k 0 ≠ -1) : WP Dg mcnt ad (mE cA ad (fUnq σ k)) H := by
  unfold unM at hW
  rw [if_neg (by omega)] at hW
  unfold fUnq
  rw [if_neg hw, ups_comm _ (show (11 : Nat) ≠ 25 by decide)]
  exact ghM (u := 11) (fun _ => rfl) hW
def thM (σ : St) (k i : Int) : St := if σ 13 k 0 = 0 then fThaw0 σ k else fGather i.toNat (fThaw1 (fThaw0 σ k) k) k
def thC (σ : St) (k i : Int) : Int := if σ 13 k 0 = 0 then 0 else cGather i.toNat (fThaw1 (fThaw0 σ k) k) k + (if σ 6 k 0 = 0 then 0 else 1)
theorem thM_end {σ : St} {k i : Int} (h : σ 13 k 0 = 0 ∨ i = σ 27 0 0) : thM σ k i = fThaw σ k := by
  unfold thM fThaw
  by_cases c : σ 13 k 0 = 0
  · rw [if_pos c, if_pos c]
  · rw [if_neg c, if_neg c, h.resolve_left c]
theorem thC_end {σ : St} {k i : Int} (h : σ 13 k 0 = 0 ∨ i = σ 27 0 0) : thC σ k i = aThaw σ k := by
  unfold thC aThaw
  by_cases c : σ 13 k 0 = 0
  · rw [if_pos c, if_pos c]
  · rw [if_neg c, if_neg c, h.resolve_left c]
theorem thM_in {σ : St} {k : Int} (i : Int) (h : σ 13 k 0 ≠ 0) : thM σ k i = fGather i.toNat (fThaw1 (fThaw0 σ k) k) k := by
  unfold thM
  rw [if_neg h]
theorem thM_go {σ : St} {k i : Int} (h : σ 13 k 0 ≠ 0) (h0 : 0 ≤ i) (c : thM σ k i 6 i 0 ≠ 0 ∧ thM σ k i 8 i 0 = -1) : fCome (thM σ k i) i k = thM σ k (i + 1) ∧ thC σ k (i + 1) = thC σ k i + 1 := by
  rw [thM_in _ h] at c
  refine ⟨?_, ?_⟩
  · rw [thM_in _ h, thM_in _ h, fGather_step h0, if_pos c]
  · unfold thC
    rw [if_neg h, if_neg h, cGather_step h0, if_pos c]
    omega
theorem thM_no {σ : St} {k i : Int} (h : σ 13 k 0 ≠ 0) (h0 : 0 ≤ i) (c : ¬ (thM σ k i 6 i 0 ≠ 0 ∧ thM σ k i 8 i 0 = -1)) : thM σ k i = thM σ k (i + 1) ∧ thC σ k (i + 1) = thC σ k i := by
  rw [thM_in _ h] at c
  refine ⟨?_, ?_⟩
  · rw [thM_in _ h, thM_in _ h, fGather_step h0, if_neg c]
  · unfold thC
    rw [if_neg h, if_neg h, cGather_step h0, if_neg c]
theorem thM_T (σ : St) (k i : Int) : ∀ t, t ∉ [8, 12, 13, 14, 16, 17, 23] → thM σ k i t = σ t := by
  unfold thM
  split
  · exact wid (fThaw0_T σ k) (by decide)
  · exact com (wid (fThaw0_T σ k) (by decide)) (wid (gath_T _ _ k) (by decide))
theorem Inv_thM {N M : Int} {σ : St} {k i : Int} (h : Inv N M σ) (hM : 0 ≤ M) (hk : 0 ≤ k ∧ k < σ 27 0 0) (hi : i ≤ 6) : Inv N M (thM σ k i) := by
  have h0 := Inv_fThaw0 (k := k) h hM
  unfold thM
  split
  · exact h0
  · have e : fThaw0 σ k 27 0 0 = σ 27 0 0 := at1 (fThaw0_T σ k) (t := 27) (by decide) 0 0
    exact Inv_fGather _ (by omega) (Inv_fThaw1 h0 (by rw [e]; exact hk)) hk.1 (by rw [at1 (fThaw1_T _ k) (t := 27) (by decide), e]; exact hk.2)
theorem thM_0 {σ : St} {k : Int} (h : σ 13 k 0 = 0 ∨ σ 6 k 0 = 0) : thM σ k 0 = fThaw0 σ k ∧ thC σ k 0 = 0 := by
  unfold thM thC
  by_cases c : σ 13 k 0 = 0
  · rw [if_pos c, if_pos c]; exact ⟨rfl, rfl⟩
  · have h6 := h.resolve_left c
    rw [if_neg c, if_neg c, if_pos h6]
    refine ⟨?_, rfl⟩
    show fThaw1 (fThaw0 σ k) k = fThaw0 σ k
    unfold fThaw1
    rw [if_pos (by rw [at1 (fThaw0_T σ k) (t := 6) (by decide)]; exact h6)]
theorem thM_1 {σ : St} {k : Int} (h : σ 13 k 0 ≠ 0) (h6 : σ 6 k 0 ≠ 0) : thM σ k 0 = fSettle (fThaw0 σ k) k k ∧ thC σ k 0 = 1 := by
  unfold thM thC
  rw [if_neg h, if_neg h, if_neg h6]
  refine ⟨?_, rfl⟩
  show fThaw1 (fThaw0 σ k) k = _
  unfold fThaw1
  rw [if_neg (by rw [at1 (fThaw0_T σ k) (t := 6) (by decide)]; exact h6)]
end MATH12
