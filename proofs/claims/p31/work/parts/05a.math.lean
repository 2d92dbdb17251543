section MATH4
-- ===== what the calls do =====
def fLeave (σ : St) (p : Int) : St := if σ 8 p 0 = -1 then σ else ups (rAt σ (σ 8 p 0) (idx σ (σ 8 p 0) p)) 8 p 0 (-1)
def fCome (σ : St) (p k : Int) : St := if k = p then aFirst (ups σ 8 p 0 k) k p else if k = -1 then ups σ 8 p 0 k else aLast (ups σ 8 p 0 k) k p
def fSettle (σ : St) (p k : Int) : St := fCome (fLeave σ p) p k
def apart (a b : Int) : Int := if b < a then a - b else b - a
def nearN (σ : St) (k : Int) : Nat → Int
  | 0 => -1
  | n + 1 => if σ 13 n 0 = 0 ∧ (nearN σ k n < 0 ∨ apart n k < apart (nearN σ k n) k) then n else nearN σ k n
def near (σ : St) (k : Int) : Int := nearN σ k (σ 27 0 0).toNat
def fPass (σ : St) (d : Int) : St := if σ 17 (6 + d) 0 = 0 then ups σ 18 d 0 (-1) else ups (ups (ups (rAt σ (6 + d) 0) 18 d 0 (σ 16 (6 + d) 0)) 11 (σ 16 (6 + d) 0) 0 (-1)) 25 (σ 16 (6 + d) 0) 0 (-1)
def held (σ : St) (p : Int) : Int := cN (fun d => decide (σ 18 d 0 = p)) 6
def oLease (σ : St) (p d : Int) : Nat := if σ 18 d 0 = p ∨ 3 ≤ held σ p then 0 else if σ 18 d 0 = -1 then 0 else 2
def fLease (σ : St) (p d : Int) : St := if σ 18 d 0 = p ∨ 3 ≤ held σ p then σ else if σ 18 d 0 = -1 then ups σ 18 d 0 p else ups (ups (aLast σ (6 + d) p) 11 p 0 d) 25 p 0 d
abbrev hasV (σ : St) (k : Int) : Prop := 0 < cN (fun v => decide (σ 22 v 0 = k)) (σ 28 0 0)
def wouldB (σ : St) (k n v : Int) : Bool := decide (σ 22 v 0 = k ∧ (σ 19 v n = 0 ∨ σ 21 v n ≠ 0))
abbrev someS (σ : St) (k n : Int) : Prop := 0 < cN (wouldB σ k n) (σ 28 0 0)
def seeP (σ : St) (k n i : Int) : St := fun t v s => if (t = 19 ∨ t = 21) ∧ s = n ∧ 0 ≤ v ∧ v < i ∧ wouldB σ k n v = true then (if t = 19 then σ 19 v n + 1 else 0) else σ t v s
def fShow (σ : St) (k n : Int) : St := if hasV σ k ∧ ¬ someS σ k n then σ else ups (ups (seeP σ k n (σ 28 0 0)) 15 k 0 n) 30 0 0 (σ 30 0 0 + 1)
def oShow (σ : St) (k n : Int) : Nat := if hasV σ k ∧ ¬ someS σ k n then 0 else 1
def fBranch (σ : St) (p k n : Int) : St := if k = 108 ∧ 0 < σ 9 p 0 then ups σ 9 p 0 (σ 9 p 0 - 1) else if k ≠ 118 ∨ ¬ hasV σ (σ 8 p 0) then ups σ 4 p (σ 5 p 0 - 1) n else σ
def fObey (σ : St) (p k n : Int) : St :=
  if k = 115 then fShow σ (σ 8 p 0) n else if k = 119 then ups σ 10 p 0 (n - 1) else if k = 100 then fLease σ p n else if k = 102 then (if σ 18 n 0 = p then fPass σ n else σ)
  else if k = 112 then (if n < σ 26 0 0 then fPutG σ p n else σ) else if k = 99 then ups σ 9 p 0 n else fBranch σ p k n
def oObey (σ : St) (p k n : Int) : Nat := if k = 115 then oShow σ (σ 8 p 0) n else if k = 119 then 2 else if k = 100 then oLease σ p n else 0
/-- a list that ended taken away, one line counted -/
def fHead (σ : St) (p : Int) : St := ups (fPop σ p) 29 0 0 (fPop σ p 29 0 0 + 1)
def fStep (σ : St) (p : Int) : St := ups σ 4 p (σ 5 p 0 - 1) (σ 4 p (σ 5 p 0 - 1) + 1)
abbrev kAt (σ : St) (p : Int) : Int := σ 1 (8 + 4 * p + (σ 5 p 0 - 1)) (σ 4 p (σ 5 p 0 - 1))
abbrev nAt (σ : St) (p : Int) : Int := σ 2 (8 + 4 * p + (σ 5 p 0 - 1)) (σ 4 p (σ 5 p 0 - 1))
def fDo (σ : St) (p : Int) : St := if atEnd σ p then fBegP σ p (σ 7 p 0) else fObey (fStep σ p) p (kAt σ p) (nAt σ p)
def oDo (σ : St) (p : Int) : Nat := if atEnd σ p then 0 else oObey (fStep σ p) p (kAt σ p) (nAt σ p)
def fLine (σ : St) (p : Int) : St := fDo (fHead σ p) p
def oLine (σ : St) (p : Int) : Nat := oDo (fHead σ p) p
def fLines : Nat → St → Int → St
  | 0, σ, _ => σ
  | n + 1, σ, p => if oLine σ p = 0 then fLines n (fLine σ p) p else fLine σ p
def fTurn (σ : St) (p : Int) : St := if 0 < σ 10 p 0 then ups σ 10 p 0 (σ 10 p 0 - 1) else if σ 11 p 0 ≠ -1 then σ else fLines 8 σ p
def fRow : Nat → St → Int → Int → St
  | 0, σ, _, _ => σ
  | n + 1, σ, k, j => if j < σ 17 k 0 then fRow n (fTurn σ (σ 16 k j)) k (j + 1) else σ
def fKs : Nat → St → Int → St
  | 0, σ, _ => σ
  | n + 1, σ, i => if i < σ 27 0 0 then fKs n (if σ 12 i 0 = 0 then fRow 6 σ i 0 else σ) (i + 1) else σ
def fMove : Nat → St → Int → Int → St
  | 0, σ, _, _ => σ
  | n + 1, σ, k, r => fMove n (fSettle σ (σ 16 k 0) r) k r
def fOut (σ : St) (k : Int) : St := fMove (σ 17 k 0).toNat (ups σ 13 k 0 1) k (near (ups σ 13 k 0 1) k)
def fWatch1 (σ : St) (k : Int) : St := if σ 12 k 0 = 0 then σ else if σ 13 k 0 = 0 then ups (ups σ 14 k 0 (σ 14 k 0 + 1)) 23 k 0 (σ 23 k 0 + 1) else ups σ 23 k 0 (σ 23 k 0 + 1)
def fWatch (σ : St) (k : Int) : St := if σ 12 k 0 ≠ 0 ∧ σ 13 k 0 = 0 ∧ 5 ≤ σ 14 k 0 + 1 then fOut (fWatch1 σ k) k else fWatch1 σ k
def fWs : Nat → St → Int → St
  | 0, σ, _ => σ
  | n + 1, σ, i => if i < σ 27 0 0 then fWs n (fWatch σ i) (i + 1) else σ
def fTick1 (σ : St) : St := fWs 6 (fKs 6 σ 0) 0
def fTick : Nat → St → St
  | 0, σ => σ
  | n + 1, σ => fTick n (fTick1 σ)
def fStart (σ : St) (k r : Int) : St := fCome (fBegin σ k r) k (near σ k)
def fUnq (σ : St) (k : Int) : St := if σ 25 k 0 = -1 then σ else ups (ups (rAt σ (6 + σ 25 k 0) (idx σ (6 + σ 25 k 0) k)) 11 k 0 (-1)) 25 k 0 (-1)
def fFrees : Nat → St → Int → St
  | 0, σ, _ => σ
  | n + 1, σ, k => if fFrees n σ k 18 n 0 = k then fPass (fFrees n σ k) n else fFrees n σ k
/-- the player's leaving, but that what the first object keeps of its waiting stays -/
def fStop (σ : St) (k : Int) : St := ups (ups (fLeave (fFrees 6 (fUnq σ k) k) k) 6 k 0 0) 11 k 0 (σ 11 k 0)
def fThaw0 (σ : St) (k : Int) : St := ups (ups (ups (ups σ 12 k 0 0) 14 k 0 0) 13 k 0 0) 23 k 0 0
def fThaw1 (σ : St) (k : Int) : St := if σ 6 k 0 = 0 then σ else fSettle σ k k
def fGather : Nat → St → Int → St
  | 0, σ, _ => σ
  | n + 1, σ, k => if fGather n σ k 6 n 0 ≠ 0 ∧ fGather n σ k 8 n 0 = -1 then fCome (fGather n σ k) n k else fGather n σ k
def cGather : Nat → St → Int → Int
  | 0, σ, k => 0
  | n + 1, σ, k => if fGather n σ k 6 n 0 ≠ 0 ∧ fGather n σ k 8 n 0 = -1 then cGather n σ k + 1 else cGather n σ k
def fThaw (σ : St) (k : Int) : St := if σ 13 k 0 = 0 then fThaw0 σ k else fGather (σ 27 0 0).toNat (fThaw1 (fThaw0 σ k) k) k
def aThaw (σ : St) (k : Int) : Int := if σ 13 k 0 = 0 then 0 else cGather (σ 27 0 0).toNat (fThaw1 (fThaw0 σ k) k) k + (if σ 6 k 0 = 0 then 0 else 1)
-- ===== the invariant =====
def okL (k n : Int) : Prop := (k = 115 ∧ 0 ≤ n ∧ n ≤ 99) ∨ (k = 119 ∧ 1 ≤ n ∧ n ≤ 20) ∨ ((k = 100 ∨ k = 102) ∧ 0 ≤ n ∧ n ≤ 5) ∨ ((k = 103 ∨ k = 118 ∨ k = 108) ∧ 0 ≤ n ∧ n ≤ 20) ∨ (k = 99 ∧ 0 ≤ n ∧ n ≤ 99) ∨ (k = 112 ∧ 0 ≤ n ∧ n ≤ 7)
def IvA (σ : St) : Prop := (0 ≤ σ 26 0 0 ∧ σ 26 0 0 ≤ 8) ∧ (0 ≤ σ 27 0 0 ∧ σ 27 0 0 ≤ 6) ∧ (0 ≤ σ 28 0 0 ∧ σ 28 0 0 ≤ 10)
def IvR (σ : St) : Prop := ∀ r : Int, 0 ≤ r → r < 32 → (0 ≤ σ 3 r 0 ∧ σ 3 r 0 ≤ 20) ∧ ∀ j : Int, 0 ≤ j → j < 20 → (0 ≤ σ 1 r j ∧ σ 1 r j < 65536) ∧ (j < σ 3 r 0 → okL (σ 1 r j) (σ 2 r j))
def IvH (σ : St) : Prop := ∀ p h : Int, 0 ≤ p → p < 6 → 0 ≤ h → h < 4 → 0 ≤ σ 4 p h ∧ σ 4 p h ≤ 20
def IvD (σ : St) : Prop := ∀ p : Int, 0 ≤ p → p < 6 → (0 ≤ σ 5 p 0 ∧ σ 5 p 0 ≤ 4) ∧ (σ 6 p 0 = 1 → 1 ≤ σ 5 p 0 ∧ σ 24 p 0 = σ 5 p 0)
def IvS (σ : St) : Prop := ∀ p : Int, 0 ≤ p → p < 6 → (σ 6 p 0 = 0 ∨ σ 6 p 0 = 1) ∧ -1 ≤ σ 8 p 0 ∧ σ 8 p 0 < 6 ∧ σ 8 p 0 < σ 27 0 0 ∧ (σ 6 p 0 = 0 → σ 8 p 0 = -1)
def IvC (σ : St) : Prop := ∀ p : Int, 0 ≤ p → p < 6 → 0 ≤ σ 9 p 0 ∧ σ 9 p 0 ≤ 99
def IvT (σ : St) : Prop := ∀ p : Int, 0 ≤ p → p < 6 → 0 ≤ σ 10 p 0 ∧ σ 10 p 0 ≤ 19
def IvU (σ : St) : Prop := ∀ p : Int, 0 ≤ p → p < 6 → (-1 ≤ σ 11 p 0 ∧ σ 11 p 0 ≤ 5) ∧ (-1 ≤ σ 25 p 0 ∧ σ 25 p 0 ≤ 5) ∧ (σ 6 p 0 = 1 → σ 25 p 0 = σ 11 p 0)
def IvL (σ : St) : Prop := ∀ p : Int, 0 ≤ p → p < 6 → (0 ≤ σ 7 p 0 ∧ σ 7 p 0 < 8) ∧ (σ 6 p 0 = 1 → σ 7 p 0 < σ 26 0 0)
def IvK (M : Int) (σ : St) : Prop := ∀ k : Int, 0 ≤ k → k < 6 → (σ 12 k 0 = 0 ∨ σ 12 k 0 = 1) ∧ (σ 13 k 0 = 0 ∨ σ 13 k 0 = 1) ∧ (σ 13 k 0 = 1 → σ 12 k 0 = 1) ∧ (0 ≤ σ 14 k 0 ∧ σ 14 k 0 ≤ 5) ∧ (σ 12 k 0 = 0 → σ 14 k 0 = 0 ∧ σ 23 k 0 = 0) ∧ (σ 13 k 0 = 0 → σ 23 k 0 = σ 14 k 0 ∧ σ 14 k 0 ≤ 4) ∧ (-1 ≤ σ 15 k 0 ∧ σ 15 k 0 ≤ 99) ∧ (0 ≤ σ 23 k 0 ∧ σ 23 k 0 ≤ M)
def IvM (σ : St) : Prop := ∀ w q : Int, 0 ≤ w → w < 6 → 0 ≤ q → q < 6 → (mem σ w q ↔ σ 8 q 0 = w)
def IvQ (σ : St) : Prop := ∀ d q : Int, 0 ≤ d → d < 6 → 0 ≤ q → q < 6 → (mem σ (6 + d) q ↔ σ 6 q 0 = 1 ∧ σ 11 q 0 = d)
def IvO (σ : St) : Prop := (∀ d : Int, 0 ≤ d → d < 6 → (-1 ≤ σ 18 d 0 ∧ σ 18 d 0 ≤ 5) ∧ (σ 18 d 0 ≠ -1 → σ 6 (σ 18 d 0) 0 = 1)) ∧ ∀ p : Int, 0 ≤ p → p < 6 → σ 6 p 0 = 1 → held σ p ≤ 3 ∧ (σ 11 p 0 ≠ -1 → held σ p ≤ 2 ∧ σ 18 (σ 11 p 0) 0 ≠ p)
def IvV (N : Int) (σ : St) : Prop := ∀ v : Int, 0 ≤ v → v < 10 → (-1 ≤ σ 22 v 0 ∧ σ 22 v 0 < 6 ∧ σ 22 v 0 < σ 27 0 0) ∧ ∀ s : Int, 0 ≤ s → s < 100 → 0 ≤ σ 19 v s ∧ (0 ≤ σ 20 v s ∧ σ 20 v s ≤ N) ∧ σ 19 v s ≤ σ 20 v s + 1 ∧ (σ 21 v s = 0 ∨ σ 21 v s = 1) ∧ (σ 21 v s = 1 → σ 19 v s ≤ σ 20 v s)
def Inv (N M : Int) (σ : St) : Prop := IvA σ ∧ IvR σ ∧ IvH σ ∧ IvD σ ∧ IvS σ ∧ IvC σ ∧ IvT σ ∧ IvU σ ∧ IvL σ ∧ IvK M σ ∧ IvW σ ∧ IvM σ ∧ IvQ σ ∧ IvO σ ∧ IvV N σ
theorem Inv.A {N M : Int} {σ : St} (h : Inv N M σ) : IvA σ := h.1
theorem Inv.R {N M : Int} {σ : St} (h : Inv N M σ) : IvR σ := h.2.1
theorem Inv.H {N M : Int} {σ : St} (h : Inv N M σ) : IvH σ := h.2.2.1
theorem Inv.D {N M : Int} {σ : St} (h : Inv N M σ) : IvD σ := h.2.2.2.1
theorem Inv.S {N M : Int} {σ : St} (h : Inv N M σ) : IvS σ := h.2.2.2.2.1
theorem Inv.C {N M : Int} {σ : St} (h : Inv N M σ) : IvC σ := h.2.2.2.2.2.1
theorem Inv.T {N M : Int} {σ : St} (h : Inv N M σ) : IvT σ := h.2.2.2.2.2.2.1
theorem Inv.U {N M : Int} {σ : St} (h : Inv N M σ) : IvU σ := h.2.2.2.2.2.2.2.1
theorem Inv.L {N M : Int} {σ : St} (h : Inv N M σ) : IvL σ := h.2.2.2.2.2.2.2.2.1
theorem Inv.K {N M : Int} {σ : St} (h : Inv N M σ) : IvK M σ := h.2.2.2.2.2.2.2.2.2.1
theorem Inv.W {N M : Int} {σ : St} (h : Inv N M σ) : IvW σ := h.2.2.2.2.2.2.2.2.2.2.1
theorem Inv.M {N M : Int} {σ : St} (h : Inv N M σ) : IvM σ := h.2.2.2.2.2.2.2.2.2.2.2.1
theorem Inv.Q {N M : Int} {σ : St} (h : Inv N M σ) : IvQ σ := h.2.2.2.2.2.2.2.2.2.2.2.2.1
theorem Inv.O {N M : Int} {σ : St} (h : Inv N M σ) : IvO σ := h.2.2.2.2.2.2.2.2.2.2.2.2.2.1
theorem Inv.V {N M : Int} {σ : St} (h : Inv N M σ) : IvV N σ := h.2.2.2.2.2.2.2.2.2.2.2.2.2.2
theorem fr {σ σ' : St} {T L : List Nat} (h : ∀ t, t ∉ T → σ' t = σ t) (hd : ∀ t, t ∈ L → t ∉ T) : ∀ t, t ∈ L → σ' t = σ t := fun t ht => h t (hd t ht)
theorem ups_T (σ : St) (t : Nat) (i j v : Int) : ∀ t', t' ∉ [t] → ups σ t i j v t' = σ t' := fun t' h => by
  funext a b
  exact ups_t σ (fun z => h (by rw [z]; exact List.mem_singleton.mpr rfl)) i j v a b
theorem tr_T {σ σ' σ'' : St} {T T' T'' : List Nat} (h : ∀ t, t ∉ T → σ' t = σ t) (h' : ∀ t, t ∉ T' → σ'' t = σ' t) (hs : ∀ t, t ∉ T'' → t ∉ T ∧ t ∉ T') : ∀ t, t ∉ T'' → σ'' t = σ t := fun t ht => (h' t (hs t ht).2).trans (h t (hs t ht).1)
theorem id_T (σ : St) (T : List Nat) : ∀ t, t ∉ T → σ t = σ t := fun _ _ => rfl
theorem ni {T T' : List Nat} {t : Nat} (hd : ∀ x, x ∈ T' → x ∈ T) (h : t ∉ T) : t ∉ T' := fun z => h (hd t z)
theorem IvA_c {σ σ' : St} (h : ∀ t, t ∈ [26, 27, 28] → σ' t = σ t) (hi : IvA σ) : IvA σ' := by
  have e26 := h 26 (by decide)
  have e27 := h 27 (by decide)
  have e28 := h 28 (by decide)
  unfold IvA at hi ⊢
  simp only [e26, e27, e28]
  exact hi
theorem IvR_c {σ σ' : St} (h : ∀ t, t ∈ [1, 2, 3] → σ' t = σ t) (hi : IvR σ) : IvR σ' := by
  have e1 := h 1 (by decide)
  have e2 := h 2 (by decide)
  have e3 := h 3 (by decide)
  unfold IvR at hi ⊢
  simp only [e1, e2, e3]
  exact hi
theorem IvH_c {σ σ' : St} (h : ∀ t, t ∈ [4] → σ' t = σ t) (hi : IvH σ) : IvH σ' := by
  have e4 := h 4 (by decide)
  unfold IvH at hi ⊢
  simp only [e4]
  exact hi
theorem IvD_c {σ σ' : St} (h : ∀ t, t ∈ [5, 6, 24] → σ' t = σ t) (hi : IvD σ) : IvD σ' := by
  have e5 := h 5 (by decide)
  have e6 := h 6 (by decide)
  have e24 := h 24 (by decide)
  unfold IvD at hi ⊢
  simp only [e5, e6, e24]
  exact hi
theorem IvS_c {σ σ' : St} (h : ∀ t, t ∈ [6, 8, 27] → σ' t = σ t) (hi : IvS σ) : IvS σ' := by
  have e6 := h 6 (by decide)
  have e8 := h 8 (by decide)
  have e27 := h 27 (by decide)
  unfold IvS at hi ⊢
  simp only [e6, e8, e27]
  exact hi
theorem IvC_c {σ σ' : St} (h : ∀ t, t ∈ [9] → σ' t = σ t) (hi : IvC σ) : IvC σ' := by
  have e9 := h 9 (by decide)
  unfold IvC at hi ⊢
  simp only [e9]
  exact hi
theorem IvT_c {σ σ' : St} (h : ∀ t, t ∈ [10] → σ' t = σ t) (hi : IvT σ) : IvT σ' := by
  have e10 := h 10 (by decide)
  unfold IvT at hi ⊢
  simp only [e10]
  exact hi
theorem IvU_c {σ σ' : St} (h : ∀ t, t ∈ [6, 11, 25] → σ' t = σ t) (hi : IvU σ) : IvU σ' := by
  have e6 := h 6 (by decide)
  have e11 := h 11 (by decide)
  have e25 := h 25 (by decide)
  unfold IvU at hi ⊢
  simp only [e6, e11, e25]
  exact hi
theorem IvL_c {σ σ' : St} (h : ∀ t, t ∈ [6, 7, 26] → σ' t = σ t) (hi : IvL σ) : IvL σ' := by
  have e6 := h 6 (by decide)
  have e7 := h 7 (by decide)
  have e26 := h 26 (by decide)
  unfold IvL at hi ⊢
  simp only [e6, e7, e26]
  exact hi
theorem IvK_c {M : Int} {σ σ' : St} (h : ∀ t, t ∈ [12, 13, 14, 15, 23] → σ' t = σ t) (hi : IvK M σ) : IvK M σ' := by
  have e12 := h 12 (by decide)
  have e13 := h 13 (by decide)
  have e14 := h 14 (by decide)
  have e15 := h 15 (by decide)
  have e23 := h 23 (by decide)
  unfold IvK at hi ⊢
  simp only [e12, e13, e14, e15, e23]
  exact hi
theorem IvW_c {σ σ' : St} (h : ∀ t, t ∈ [16, 17] → σ' t = σ t) (hi : IvW σ) : IvW σ' := by
  have e16 := h 16 (by decide)
  have e17 := h 17 (by decide)
  unfold IvW at hi ⊢
  simp only [e16, e17]
  exact hi
theorem IvM_c {σ σ' : St} (h : ∀ t, t ∈ [8, 16, 17] → σ' t = σ t) (hi : IvM σ) : IvM σ' := by
  have e8 := h 8 (by decide)
  have e16 := h 16 (by decide)
  have e17 := h 17 (by decide)
  unfold IvM at hi ⊢
  unfold mem at hi ⊢
  simp only [e8, e16, e17]
  exact hi
theorem IvQ_c {σ σ' : St} (h : ∀ t, t ∈ [6, 11, 16, 17] → σ' t = σ t) (hi : IvQ σ) : IvQ σ' := by
  have e6 := h 6 (by decide)
  have e11 := h 11 (by decide)
  have e16 := h 16 (by decide)
  have e17 := h 17 (by decide)
  unfold IvQ at hi ⊢
  unfold mem at hi ⊢
  simp only [e6, e11, e16, e17]
  exact hi
theorem IvO_c {σ σ' : St} (h : ∀ t, t ∈ [6, 11, 18] → σ' t = σ t) (hi : IvO σ) : IvO σ' := by
  have e6 := h 6 (by decide)
  have e11 := h 11 (by decide)
  have e18 := h 18 (by decide)
  unfold IvO at hi ⊢
  unfold held at hi ⊢
  simp only [e6, e11, e18]
  exact hi
theorem IvV_c {N : Int} {σ σ' : St} (h : ∀ t, t ∈ [19, 20, 21, 22, 27] → σ' t = σ t) (hi : IvV N σ) : IvV N σ' := by
  have e19 := h 19 (by decide)
  have e20 := h 20 (by decide)
  have e21 := h 21 (by decide)
  have e22 := h 22 (by decide)
  have e27 := h 27 (by decide)
  unfold IvV at hi ⊢
  simp only [e19, e20, e21, e22, e27]
  exact hi
end MATH4
