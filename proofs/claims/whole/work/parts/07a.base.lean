section BASE5
variable {p : Program} {l : Launch} {e : Env} {R : Room} {s : State} {m : MethodId} {args : Array Value} {below : List Frame} {meth : Method} {c : Code} {H : Heap} {locs : List Loc} {cells slots : Nat} {Q : State → Prop} {cc : ByteArray} {pc : Nat} {ls : Array Slot} {rest : List Value} {own : String} {Ts : List Cond} {Dg : va_G} {cA : Nat → ClassId} {cnt : Nat → Int} {ad : Nat → Int → Nat} {A : Nat → Prop}
theorem k_top0 {a b : Int} (h : a = b) (kk : W p l e R s m args below meth c H locs cells slots Q (F0 m pc ls (.int (zi b) :: rest))) : W p l e R s m args below meth c H locs cells slots Q (F0 m pc ls (.int (zi a) :: rest)) := by rw [h]; exact kk
theorem k_top1 {a b : Int} {x : Value} (h : a = b) (kk : W p l e R s m args below meth c H locs cells slots Q (F0 m pc ls (x :: .int (zi b) :: rest))) : W p l e R s m args below meth c H locs cells slots Q (F0 m pc ls (x :: .int (zi a) :: rest)) := by rw [h]; exact kk
theorem k_top2 {a b : Int} {x y : Value} (h : a = b) (kk : W p l e R s m args below meth c H locs cells slots Q (F0 m pc ls (x :: y :: .int (zi b) :: rest))) : W p l e R s m args below meth c H locs cells slots Q (F0 m pc ls (x :: y :: .int (zi a) :: rest)) := by rw [h]; exact kk
theorem zi_c {a : Int} (h : 0 ≤ a ∧ a < 65536) : ((zi a).toUInt32 % 65536).toInt32 = zi a := by
  rw [zi_nI h.1, pk_char, show (nI a.toNat).toBitVec.toNat % 65536 = a.toNat from ?_]
  have h1 : (nI a.toNat).toBitVec.toNat = a.toNat := by
    show (BitVec.ofNat 32 a.toNat).toNat = a.toNat
    rw [BitVec.toNat_ofNat]
    omega
  rw [h1]
  omega
theorem k_i2c (hC : CX p c cc s m args own Ts Dg cA cnt ad A) {a : Int} (hdg : decode cc pc = .ok (.i2c, 1)) (h : 0 ≤ a ∧ a < 65536) (kk : W p l e R s m args below meth c H locs cells slots Q (F0 m (pc + 1) ls (.int (zi a) :: rest))) : W p l e R s m args below meth c H locs cells slots Q (F0 m pc ls (.int (zi a) :: rest)) :=
  lv_i2c hC.1 hC.2.1 hdg (zi_c h) kk
end BASE5
section MATH11
def gLeave (σ : St) (p : Int) : St := if σ 8 p 0 = -1 then σ else rAt σ (σ 8 p 0) (idx σ (σ 8 p 0) p)
theorem fLeave_g (σ : St) (p : Int) : fLeave σ p = ups (gLeave σ p) 8 p 0 (-1) := by
  unfold fLeave gLeave
  split
  · next h => exact (ups_id _ _ _ _ h.symm).symm
  · rfl
theorem fCome_8w (σ : St) (p k v : Int) : fCome (ups σ 8 p 0 v) p k = fCome σ p k := by
  unfold fCome
  rw [ups_ups]
theorem settle_g (σ : St) (p k : Int) : fCome (gLeave σ p) p k = fSettle σ p k := by
  unfold fSettle
  rw [fLeave_g, fCome_8w]
theorem gLeave_T (σ : St) (p : Int) : ∀ t, t ∉ [16, 17] → gLeave σ p t = σ t := by
  unfold gLeave
  split
  · exact id_T _ _
  · exact rAt_T _ _ _
theorem gLeave_room {N M : Int} {σ : St} (h : Inv N M σ) {p k : Int} (hp : 0 ≤ p ∧ p < 6) (hk : 0 ≤ k ∧ k < 6) : 0 ≤ gLeave σ p 17 k 0 ∧ gLeave σ p 17 k 0 < 6 := by
  have hL := Inv_fLeave h hp
  have e : fLeave σ p 17 k 0 = gLeave σ p 17 k 0 := by rw [fLeave_g, ups_t _ (by decide)]
  rw [← e]
  exact ⟨(hL.W k (by omega) (by omega)).1.1, room_of hL hp hk (by rw [fLeave_8, if_pos rfl]; omega)⟩
theorem come_end {σ : St} {p k m : Int} (h : (k = p ∧ m = 0) ∨ (p ≠ k ∧ k ≠ -1 ∧ m = σ 17 k 0)) : ups (ups (shR (ups σ 8 p 0 k) k m) 16 k m p) 17 k 0 (σ 17 k 0 + 1) = fCome σ p k := by
  unfold fCome
  rcases h with ⟨h1, rfl⟩ | ⟨h1, h2, rfl⟩
  · rw [if_pos h1]
    unfold aFirst
    rw [ups_t _ (by decide)]
  · rw [if_neg (fun z => h1 z.symm), if_neg h2]
    unfold aLast
    have q := shR_0 (ups σ 8 p 0 k) k
    rw [ups_t _ (by decide)] at q
    rw [q, ups_t _ (by decide)]
theorem nearN_s (σ : St) (k : Int) {i : Int} (h : 0 ≤ i) : nearN σ k (i + 1).toNat = if σ 13 i 0 = 0 ∧ (nearN σ k i.toNat < 0 ∨ apart i k < apart (nearN σ k i.toNat) k) then i else nearN σ k i.toNat := by
  rw [show (i + 1).toNat = i.toNat + 1 by omega, nearN, Int.toNat_of_nonneg h]
theorem copies_end (σ : St) (p h r R v m : Int) : cpP (ups (ups (ups σ 7 p h r) 4 p h 0) 3 R 0 v) R r m = ups (ups (cpP (ups σ 3 R 0 v) R r m) 4 p h 0) 7 p h r := by
  rw [ups_comm _ (show (4 : Nat) ≠ 3 by decide), ups_comm _ (show (7 : Nat) ≠ 3 by decide), ups_comm _ (show (7 : Nat) ≠ 4 by decide), cpP_ups _ _ _ _ _ _ _ (by decide) (by decide), cpP_ups _ _ _ _ _ _ _ (by decide) (by decide)]
theorem fCopy_ups (σ : St) (i j v R r : Int) {u : Nat} (h1 : u ≠ 1) (h2 : u ≠ 2) (h3 : u ≠ 3) : fCopy (ups σ u i j v) R r = ups (fCopy σ R r) u i j v := by
  unfold fCopy
  rw [ups_t _ h3.symm, ups_comm _ h3, cpP_ups _ _ _ _ _ _ _ h1 h2]
theorem freesM_end {Dg : va_G} {cA : Nat → ClassId} {ad : Nat → Int → Nat} {H : Heap} {σ τ : St} {d : Int} (hW : WP Dg mcnt ad (mE cA ad τ) H) (h0 : σ 17 (6 + d) 0 ≠ 0) (hτ : τ = ups (ups (rAt σ (6 + d) 0) 25 (σ 16 (6 + d) 0) 0 (-1)) 18 d 0 (σ 16 (6 + d) 0)) : WP Dg mcnt ad (mE cA ad (fPass σ d)) H := by
  subst hτ
  unfold fPass
  rw [if_neg h0, ups_comm _ (show (11 : Nat) ≠ 25 by decide)]
  refine ghM (u := 11) (fun _ => rfl) ?_
  rw [ups_comm _ (show (18 : Nat) ≠ 25 by decide)]
  exact hW
theorem seeP_ups (σ : St) (k n i x y v : Int) {t : Nat} (h19 : t ≠ 19) (h21 : t ≠ 21) (h22 : t ≠ 22) : seeP (ups σ t x y v) k n i = ups (seeP σ k n i) t x y v := by
  have w : ∀ u : Int, wouldB (ups σ t x y v) k n u = wouldB σ k n u := fun u => by
    unfold wouldB
    rw [ups_t _ (Ne.symm h22), ups_t _ (Ne.symm h19), ups_t _ (Ne.symm h21)]
  funext a b c
  unfold seeP
  by_cases ha : a = t
  · subst ha
    rw [if_neg (by omega)]
    unfold ups
    split
    · rfl
    · exact (if_neg (by omega)).symm
  · rw [ups_t _ ha, ups_t _ ha, w]
    by_cases h : a = 19
    · subst h
      rw [ups_t _ (Ne.symm h19)]
    · rw [if_neg (c := a = 19) h, if_neg (c := a = 19) h]
/-- a showing under way: the slide and the count first, then the visitors below i -/
def shM (σ : St) (k n i : Int) : St := ups (ups (seeP σ k n i) 15 k 0 n) 30 0 0 (σ 30 0 0 + 1)
theorem shM_w (σ : St) (k n : Int) {i v : Int} (h : i ≤ v) : wouldB (shM σ k n i) k n v = wouldB σ k n v := by
  unfold wouldB shM
  rw [ups_t _ (by decide), ups_t _ (by decide), ups_t _ (by decide), ups_t _ (by decide), ups_t _ (by decide), ups_t _ (by decide), seeP_22 _ _ _ _ (by decide) (by decide), seeP_rd _ _ _ _ _ _ h, seeP_rd _ _ _ _ _ _ h]
theorem shM_go (σ : St) {k n i : Int} (h0 : 0 ≤ i) (h : wouldB σ k n i = true) : ups (ups (shM σ k n i) 19 i n (σ 19 i n + 1)) 21 i n 0 = shM σ k n (i + 1) := by
  unfold shM
  rw [← seeP_go σ h0 h]
  unfold fSee
  rw [seeP_rd _ _ _ _ _ _ (Int.le_refl _), ups_comm _ (show (30 : Nat) ≠ 19 by decide), ups_comm _ (show (15 : Nat) ≠ 19 by decide), ups_comm _ (show (30 : Nat) ≠ 21 by decide), ups_comm _ (show (15 : Nat) ≠ 21 by decide)]
theorem shM_skip (σ : St) {k n i : Int} (h : ¬ wouldB σ k n i = true) : shM σ k n i = shM σ k n (i + 1) := by
  unfold shM
  rw [seeP_skip σ h]
theorem shM_0 (σ : St) (k n : Int) : ups (ups σ 15 k 0 n) 30 0 0 (σ 30 0 0 + 1) = shM σ k n 0 := by
  unfold shM
  rw [seeP_0]
theorem shM_T (σ : St) (k n i : Int) : ∀ t, t ∉ [15, 19, 21, 30] → shM σ k n i t = σ t := fun t h => by
  unfold shM
  exact (com (wid (seeP_T σ k n i) (by decide)) (com (upsW _ 15 _ _ _ (by decide)) (upsW _ 30 _ _ _ (by decide))) : ∀ t, t ∉ [15, 19, 21, 30] → _) t h
theorem oShow_le (σ : St) (k n : Int) : oShow σ k n ≤ 1 := by
  unfold oShow
  split <;> omega
-- piles
theorem popN_more : ∀ (k : Nat) {σ : St} {p : Int}, σ 5 p 0 ≤ (k : Int) + 1 → popN (k + 1) σ p = popN k σ p
  | 0, σ, p, h => by rw [popN_stop 1 (fun z => by have := z.1; omega)]; rfl
  | k + 1, σ, p, h => by
    by_cases c : 1 < σ 5 p 0 ∧ atEnd σ p
    · rw [popN_go _ c, popN_go _ c]
      exact popN_more k (by rw [pop1_h]; omega)
    · rw [popN_stop _ c, popN_stop _ c]
theorem fPop_pop {σ : St} {p : Int} (h4 : σ 5 p 0 ≤ 4) (c : 1 < σ 5 p 0 ∧ atEnd σ p) : fPop (pop1 σ p) p = fPop σ p := by
  unfold fPop
  rw [popN_go 2 c]
  exact popN_more 2 (by rw [pop1_h]; omega)
theorem fHead_pop {σ : St} {p : Int} (h4 : σ 5 p 0 ≤ 4) (c : 1 < σ 5 p 0 ∧ atEnd σ p) : fHead (pop1 σ p) p = fHead σ p := by
  unfold fHead
  rw [fPop_pop h4 c]
theorem fHead_stop {σ : St} {p : Int} (c : ¬ (1 < σ 5 p 0 ∧ atEnd σ p)) : fHead σ p = ups σ 29 0 0 (σ 29 0 0 + 1) := by
  unfold fHead fPop
  rw [popN_stop 3 c]
theorem fLines_pop {σ : St} {p : Int} (h4 : σ 5 p 0 ≤ 4) (c : 1 < σ 5 p 0 ∧ atEnd σ p) (n : Nat) : fLines (n + 1) (pop1 σ p) p = fLines (n + 1) σ p := by
  have e1 : fLine (pop1 σ p) p = fLine σ p := by unfold fLine; rw [fHead_pop h4 c]
  have e2 : oLine (pop1 σ p) p = oLine σ p := by unfold oLine; rw [fHead_pop h4 c]
  rw [fLines, fLines, e1, e2]
theorem putM_end {Dg : va_G} {cA : Nat → ClassId} {ad : Nat → Int → Nat} {H : Heap} {σ : St} {p h r : Int} (hW : WP Dg mcnt ad (mE cA ad (ups (ups (fCopy (ups σ 24 p 0 (h + 1)) (8 + (4 * p + h)) r) 4 p h 0) 7 p h r)) H) (hh : h = σ 5 p 0) : WP Dg mcnt ad (mE cA ad (fPut σ p r)) H := by
  subst hh
  rw [fCopy_ups _ _ _ _ _ _ (by decide) (by decide) (by decide), ups_comm _ (show (24 : Nat) ≠ 4 by decide), ups_comm _ (show (24 : Nat) ≠ 7 by decide), show (8 + (4 * p + σ 5 p 0) : Int) = 8 + 4 * p + σ 5 p 0 by omega] at hW
  unfold fPut
  rw [ups_comm _ (show (5 : Nat) ≠ 24 by decide)]
  exact ghM (u := 5) (fun _ => rfl) hW
theorem begM_end {Dg : va_G} {cA : Nat → ClassId} {ad : Nat → Int → Nat} {H : Heap} {σ : St} {p r : Int} (hW : WP Dg mcnt ad (mE cA ad (ups (ups (ups (fCopy σ (8 + (4 * p + 0)) r) 4 p 0 0) 7 p 0 r) 24 p 0 1)) H) : WP Dg mcnt ad (mE cA ad (fBegP σ p r)) H := by
  unfold fBegP fPut
  rw [ups_eq, ups_comm _ (show (5 : Nat) ≠ 24 by decide)]
  refine ghM (u := 5) (fun _ => rfl) ?_
  rw [fCopy_ups _ _ _ _ _ _ (by decide) (by decide) (by decide), ups_comm _ (show (5 : Nat) ≠ 4 by decide), ups_comm _ (show (5 : Nat) ≠ 7 by decide), ups_comm _ (show (5 : Nat) ≠ 24 by decide)]
  refine ghM (u := 5) (fun _ => rfl) ?_
  rw [show (8 + 4 * p + 0 : Int) = 8 + (4 * p + 0) by omega, show (0 + 1 : Int) = 1 by decide]
  exact hW
theorem beg7 (F : St) (p r : Int) : ups (ups (ups (ups (ups (ups (ups (ups F 6 p 0 1) 24 p 0 1) 9 p 0 0) 10 p 0 0) 25 p 0 (-1)) 4 p 0 0) 7 p 0 r) 11 p 0 (-1) = ups (ups (ups (ups (ups (ups (ups (ups (ups F 6 p 0 1) 7 p 0 r) 9 p 0 0) 10 p 0 0) 11 p 0 (-1)) 25 p 0 (-1)) 4 p 0 0) 7 p 0 r) 24 p 0 1 := by
  funext a b c
  unfold ups
  by_cases h : b = p ∧ c = 0
  · obtain ⟨rfl, rfl⟩ := h
    repeat' split
    all_goals first | rfl | (exfalso; omega)
  · repeat' split
    all_goals first | rfl | (exfalso; omega)
theorem startM_end {Dg : va_G} {cA : Nat → ClassId} {ad : Nat → Int → Nat} {H : Heap} {τ : St} {p r : Int} (hW : WP Dg mcnt ad (mE cA ad (ups (ups (fCopy (ups (ups (ups (ups (ups τ 6 p 0 1) 24 p 0 1) 9 p 0 0) 10 p 0 0) 25 p 0 (-1)) (8 + (4 * p + 0)) r) 4 p 0 0) 7 p 0 r)) H) : WP Dg mcnt ad (mE cA ad (fBegin τ p r)) H := by
  unfold fBegin
  refine begM_end ?_
  have h2 := ghM (u := 11) (i := p) (j := 0) (v := -1) (fun _ => rfl) hW
  simp (decide := true) only [fCopy_ups] at h2 ⊢
  rw [beg7] at h2
  exact h2
theorem turnM_cp {Dg : va_G} {cA : Nat → ClassId} {ad : Nat → Int → Nat} {H : Heap} {σ τ : St} {p r : Int} (hW : WP Dg mcnt ad (mE cA ad τ) H) (hτ : τ = ups (ups (fCopy σ (8 + (4 * p + 0)) r) 4 p 0 0) 7 p 0 r) (hr : r = σ 7 p 0) (h24 : σ 24 p 0 = 1) (ht : atEnd σ p) : WP Dg mcnt ad (mE cA ad (fDo σ p)) H := by
  subst hτ
  subst hr
  unfold fDo
  rw [if_pos ht]
  refine begM_end ?_
  rw [ups_id _ 24 p 0 (by rw [ups_t _ (by decide), ups_t _ (by decide), fCopy_o _ _ _ (by decide) (by decide) (by decide), h24])]
  exact hW
/-- a turn of the second object under way: the state, the lines done, whether it goes on -/
def TurnM (N M : Int) (σ : St) (p : Int) (τ : St) (n g : Int) : Prop := Inv N M τ ∧ τ 6 p 0 = 1 ∧ ((g = 1 ∧ fLines (8 - n).toNat τ p = fLines 8 σ p ∧ τ 11 p 0 = -1 ∧ τ 8 p 0 = σ 8 p 0) ∨ (g = 0 ∧ τ = fLines 8 σ p))
theorem turnM_end {N M : Int} {σ τ : St} {p n g : Int} (h : TurnM N M σ p τ n g) (hn : g = 0 ∨ 8 ≤ n) : τ = fLines 8 σ p := by
  obtain ⟨-, -, h⟩ := h
  rcases h with h | h
  · have e := h.2.1
    rw [show (8 - n).toNat = 0 by omega] at e
    exact e
  · exact h.2
theorem turnM_pop {N M : Int} {σ τ : St} {p n g : Int} (h : TurnM N M σ p τ n g) (hg : g ≠ 0) (hn : 0 ≤ n ∧ n < 8) (hp : 0 ≤ p ∧ p < 6) (c1 : 1 < τ 5 p 0) (c2 : atEnd τ p) : TurnM N M σ p (pop1 τ p) n g := by
  obtain ⟨h1, h2, h3⟩ := h
  have hD := (h1.D p hp.1 hp.2).1
  obtain ⟨e1, e2, e3, e4⟩ := h3.resolve_right (fun z => hg z.1)
  refine ⟨Inv_pop1 h1 c1, by rw [pop1_o _ _ (by decide) (by decide)]; exact h2, Or.inl ⟨e1, ?_, by rw [pop1_o _ _ (by decide) (by decide)]; exact e3, by rw [pop1_o _ _ (by decide) (by decide)]; exact e4⟩⟩
  rw [show (8 - n).toNat = (8 - (n + 1)).toNat + 1 by omega] at e2 ⊢
  rw [fLines_pop hD.2 ⟨c1, c2⟩]
  exact e2
theorem turnM_line {N M : Int} {σ τ : St} {p n g : Int} (h : TurnM N M σ p τ n g) (hg : g ≠ 0) (hn : 0 ≤ n ∧ n < 8) (hp : 0 ≤ p ∧ p < 6) : TurnM N M σ p (fLine τ p) (n + 1) (if oLine τ p = 0 then 1 else 0) := by
  obtain ⟨h1, h2, h3⟩ := h
  obtain ⟨e1, e2, e3, e4⟩ := h3.resolve_right (fun z => hg z.1)
  rw [show (8 - n).toNat = (8 - (n + 1)).toNat + 1 by omega, fLines] at e2
  refine ⟨Inv_fLine h1 hp h2 e3, by rw [at1 (fLine_T τ p) (by decide)]; exact h2, ?_⟩
  by_cases c : oLine τ p = 0
  · rw [if_pos c] at e2 ⊢
    exact Or.inl ⟨rfl, e2, fLine_11 h1 hp h2 e3 c, by rw [at1 (fLine_T τ p) (by decide)]; exact e4⟩
  · rw [if_neg c] at e2 ⊢
    exact Or.inr ⟨rfl, e2⟩
theorem fMove_s {σ : St} {k r n : Int} (h : 0 < n) : fMove n.toNat σ k r = fMove (n - 1).toNat (fSettle σ (σ 16 k 0) r) k r := by
  rw [show n.toNat = (n - 1).toNat + 1 by omega, fMove]
theorem rowM_end {χ ψ : St} {i k : Int} (j2 : fRow (6 - k).toNat ψ i k = fRow 6 χ i 0) (j4 : ψ 12 i 0 = χ 12 i 0) (j5 : χ 12 i 0 ≠ 0 → ψ = χ) (h : ¬ k < ψ 17 i 0 ∨ ψ 12 i 0 ≠ 0) : ψ = if χ 12 i 0 = 0 then fRow 6 χ i 0 else χ := by
  by_cases c : χ 12 i 0 = 0
  · rw [if_pos c, ← j2, fRow_stop (h.resolve_right (fun z => z (j4.trans c)))]
  · rw [if_neg c]
    exact j5 c
end MATH11
