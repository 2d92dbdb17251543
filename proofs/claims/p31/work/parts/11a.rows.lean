section NWORLD
/-- the law's own arrays as a world: 20 the lists in a row, 21 the six numbers -/
def ncnt : Nat → Int := fun t => if t = 20 ∨ t = 21 then 1 else 0
def nE (cA : Nat → ClassId) (ad : Nat → Int → Nat) (τ : St) : Nat → Int → va_E := fun t _ => match t with
  | 20 => .inl (cA 1, 1300, .inl (fun j => zi (τ 40 (j : Int) 0)))
  | 21 => .inl (cA 1, 6, .inl (fun j => zi (τ 41 (j : Int) 0)))
  | _ => .inr (0, [])
theorem ncnt_lt {t : Nat} {i : Int} (h0 : 0 ≤ i) (h1 : i < ncnt t) : (t = 20 ∨ t = 21) ∧ i = 0 := by
  unfold ncnt at h1
  split at h1
  · next h => exact ⟨h, by omega⟩
  · omega
theorem nE_40 {Dg : va_G} {cA : Nat → ClassId} {ad : Nat → Int → Nat} {τ : St} {H : Heap} {x v : Int} (h : WP Dg ncnt ad (upE (nE cA ad τ) 20 0 (.inl (cA 1, 1300, .inl (fun j => zi (ups τ 40 x 0 v 40 (j : Int) 0))))) H) : WP Dg ncnt ad (nE cA ad (ups τ 40 x 0 v)) H := by
  refine h.conv (fun t i h0 h1 => ?_)
  obtain ⟨ht, rfl⟩ := ncnt_lt h0 h1
  unfold upE
  rcases ht with rfl | rfl
  · rw [if_pos ⟨rfl, rfl⟩]; exact veq.rf
  · rw [if_neg (by omega)]
    exact Or.inr ⟨_, _, _, _, rfl, rfl, fun j _ => by rw [ups_t _ (show (41 : Nat) ≠ 40 by decide)]⟩
theorem nE_41 {Dg : va_G} {cA : Nat → ClassId} {ad : Nat → Int → Nat} {τ : St} {H : Heap} {x v : Int} (h : WP Dg ncnt ad (upE (nE cA ad τ) 21 0 (.inl (cA 1, 6, .inl (fun j => zi (ups τ 41 x 0 v 41 (j : Int) 0))))) H) : WP Dg ncnt ad (nE cA ad (ups τ 41 x 0 v)) H := by
  refine h.conv (fun t i h0 h1 => ?_)
  obtain ⟨ht, rfl⟩ := ncnt_lt h0 h1
  unfold upE
  rcases ht with rfl | rfl
  · rw [if_neg (by omega)]
    exact Or.inr ⟨_, _, _, _, rfl, rfl, fun j _ => by rw [ups_t _ (show (40 : Nat) ≠ 41 by decide)]⟩
  · rw [if_pos ⟨rfl, rfl⟩]; exact veq.rf
variable {p : Program} {l : Launch} {e : Env} {R : Room} {s : State} {m : MethodId} {args : Array Value} {below : List Frame} {meth : Method} {c : Code} {H H0 : Heap} {locs : List Loc} {cells slots : Nat} {Q : State → Prop} {cc : ByteArray} {pc index : Nat} {ls : Array Slot} {rest : List Value} {own : String} {Ts : List Cond} {Dg : va_G} {cA : Nat → ClassId} {cnt : Nat → Int} {ad : Nat → Int → Nat} {A : Nat → Prop} {σ : St}
theorem na_net (hC : CX p c cc s m args own Ts Dg cA ncnt ad A) (hW : WP Dg ncnt ad (nE cA ad σ) H) {x : Int} (hx : 0 ≤ x ∧ x < 1300) {v : Int} (hv : σ 40 x 0 = v) (hdg : decode cc pc = .ok (.iaload, 1)) (kk : W p l e R s m args below meth c H locs cells slots Q (F0 m (pc + 1) ls (.int (zi v) :: rest))) : W p l e R s m args below meth c H locs cells slots Q (F0 m pc ls (.int (zi x) :: .ref (ad 20 0) :: rest)) :=
  r_iald (t := 20) (n := 1300) (g := fun j => σ 40 j 0) hC hW (by decide) (by decide) rfl (by decide) hx hdg (by simp only [hv]; exact kk)
theorem na_h (hC : CX p c cc s m args own Ts Dg cA ncnt ad A) (hW : WP Dg ncnt ad (nE cA ad σ) H) {x : Int} (hx : 0 ≤ x ∧ x < 6) {v : Int} (hv : σ 41 x 0 = v) (hdg : decode cc pc = .ok (.iaload, 1)) (kk : W p l e R s m args below meth c H locs cells slots Q (F0 m (pc + 1) ls (.int (zi v) :: rest))) : W p l e R s m args below meth c H locs cells slots Q (F0 m pc ls (.int (zi x) :: .ref (ad 21 0) :: rest)) :=
  r_iald (t := 21) (n := 6) (g := fun j => σ 41 j 0) hC hW (by decide) (by decide) rfl (by decide) hx hdg (by simp only [hv]; exact kk)
theorem ns_net (hC : CX p c cc s m args own Ts Dg cA ncnt ad A) (hW : WP Dg ncnt ad (nE cA ad σ) H) {x : Int} (hx : 0 ≤ x ∧ x < 1300) (hS : va_S A H0 H locs) {v : Int} (hdg : decode cc pc = .ok (.iastore, 1)) (kk : ∀ (H1 : Heap) (locs1 : List Loc), WP Dg ncnt ad (nE cA ad (ups σ 40 x 0 v)) H1 → va_S A H0 H1 locs1 → W p l e R s m args below meth c H1 locs1 cells slots Q (F0 m (pc + 1) ls rest)) : W p l e R s m args below meth c H locs cells slots Q (F0 m pc ls (.int (zi v) :: .int (zi x) :: .ref (ad 20 0) :: rest)) :=
  r_iast (t := 20) (n := 1300) (g := fun j => σ 40 j 0) hC hW hS (by decide) (by decide) (fun j => ups σ 40 x 0 v 40 j 0) rfl (by decide) hx (fun j _ _ => by simp [ups]) rfl hdg (fun H1 locs1 hW1 hS1 => kk H1 locs1 (nE_40 hW1) hS1)
theorem ns_h (hC : CX p c cc s m args own Ts Dg cA ncnt ad A) (hW : WP Dg ncnt ad (nE cA ad σ) H) {x : Int} (hx : 0 ≤ x ∧ x < 6) (hS : va_S A H0 H locs) {v : Int} (hdg : decode cc pc = .ok (.iastore, 1)) (kk : ∀ (H1 : Heap) (locs1 : List Loc), WP Dg ncnt ad (nE cA ad (ups σ 41 x 0 v)) H1 → va_S A H0 H1 locs1 → W p l e R s m args below meth c H1 locs1 cells slots Q (F0 m (pc + 1) ls rest)) : W p l e R s m args below meth c H locs cells slots Q (F0 m pc ls (.int (zi v) :: .int (zi x) :: .ref (ad 21 0) :: rest)) :=
  r_iast (t := 21) (n := 6) (g := fun j => σ 41 j 0) hC hW hS (by decide) (by decide) (fun j => ups σ 41 x 0 v 41 j 0) rfl (by decide) hx (fun j _ _ => by simp [ups]) rfl hdg (fun H1 locs1 hW1 hS1 => kk H1 locs1 (nE_41 hW1) hS1)
theorem div50 {q : Int} (h : 0 ≤ q ∧ q < 3) : zi (50 * q) / zi 50 = zi q := by
  rcases (show q = 0 ∨ q = 1 ∨ q = 2 by omega) with rfl | rfl | rfl <;> decide
theorem k_idiv50 (hC : CX p c cc s m args own Ts Dg cA cnt ad A) {q : Int} (hdg : decode cc pc = .ok (.idiv, 1)) (hq : 0 ≤ q ∧ q < 3) (kk : W p l e R s m args below meth c H locs cells slots Q (F0 m (pc + 1) ls (.int (zi q) :: rest))) : W p l e R s m args below meth c H locs cells slots Q (F0 m pc ls (.int (zi 50) :: .int (zi (50 * q)) :: rest)) :=
  lv_idiv hC.1 hC.2.1 hdg (by decide) (by rw [div50 hq]; exact kk)
theorem k_ldc (hC : CX p c cc s m args own Ts Dg cA cnt ad A) {v : Int32} {n : Int} (hv : v = zi n) (hcn : (Cond.constant own index v).before args s = true) (hdg : decode cc pc = .ok (.ldc index, 2)) (kk : W p l e R s m args below meth c H locs cells slots Q (F0 m (pc + 2) ls (.int (zi n) :: rest))) : W p l e R s m args below meth c H locs cells slots Q (F0 m pc ls rest) :=
  lv_ldc hC.1 hC.2.1 hC.2.2.1 hcn hdg (by rw [hv]; exact kk)
/-- two that are the same -/
theorem k_same (hC : CX p c cc s m args own Ts Dg cA cnt ad A) {a b off : Int} (hab : a = b) (hdg : decode cc pc = .ok (.if_icmp .ne off, 3)) {tgt : Nat} (ht : (pc : Int) + off = (tgt : Int)) (kf : W p l e R s m args below meth c H locs cells slots Q (F0 m (pc + 3) ls rest)) : W p l e R s m args below meth c H locs cells slots Q (F0 m pc ls (.int (zi b) :: .int (zi a) :: rest)) :=
  lv_icmp_ne hC.1 hC.2.1 hdg ht (fun h => absurd (by rw [hab]) h) (fun _ => kf)
end NWORLD
section NFACTS
/-- what a turn of the law's reads -/
theorem n_rng {N M : Int} {κ τ : St} (hv : Inv N M κ) (h : R1 κ τ) : (1 ≤ τ 41 0 0 ∧ τ 41 0 0 ≤ 4) ∧ (0 ≤ τ 41 1 0 ∧ τ 41 1 0 ≤ 99) ∧ (0 ≤ τ 41 2 0 ∧ τ 41 2 0 ≤ 19) ∧ (0 ≤ τ 40 (nTop τ) 0 ∧ τ 40 (nTop τ) 0 ≤ 20) ∧ (0 ≤ τ 40 (nTop τ + 49) 0 ∧ τ 40 (nTop τ + 49) 0 ≤ 20) ∧ (1000 ≤ nTop τ ∧ nTop τ ≤ 1150) ∧ nTop τ = 1000 + 50 * (τ 41 0 0 - 1) := by
  obtain ⟨q0, q1, q2, -⟩ := top_pg h
  have b5 := h.2.1.1
  have c9 := hv.C 0 (by decide) (by decide)
  have c10 := hv.T 0 (by decide) (by decide)
  have hH := hv.H 0 (κ 5 0 0 - 1) (by decide) (by decide) (by omega) (by omega)
  have et := top_eq h
  obtain ⟨b1, b2, b3, -⟩ := h.2.2.1
  rw [← et] at q1 q2
  rw [q1, q2, b1, b2, b3]
  exact ⟨b5, c9, c10, q0, hH, by omega, et⟩
theorem n_48 {κ τ : St} (h : R1 κ τ) (h1 : τ 41 0 0 ≤ 1) : nTop τ = 1000 ∧ 0 ≤ τ 40 (nTop τ + 48) 0 ∧ τ 40 (nTop τ + 48) 0 < 3 := by
  have b5 := h.2.1.1
  have et := top_eq h
  obtain ⟨b1, b2, b3, b4, b6, b7, -⟩ := h.2.2.1
  have e : nTop τ = 1000 := by omega
  rw [e]
  exact ⟨rfl, by rw [show (1000 : Int) + 48 = 1048 by decide, b6]; exact b7.1, by rw [show (1000 : Int) + 48 = 1048 by decide, b6]; exact b7.2⟩
theorem nDo_beg {τ : St} (h : nEnd τ) : nDo (nHd τ) = nCopy (ups τ 41 5 0 (τ 41 5 0 + 1)) (τ 40 (nTop τ + 48) 0) (nTop τ) := by
  unfold nDo
  rw [if_pos ((nEnd_hd τ).mpr h), nTop_hd, nHd_40]
  rfl
theorem nDo_go {τ : St} (h : ¬ nEnd τ) : nDo (nHd τ) = nObey (ups (ups τ 41 5 0 (τ 41 5 0 + 1)) 40 (nTop τ + 49) 0 (τ 40 (nTop τ + 49) 0 + 1)) (nTop τ) (nK τ) (nN τ) := by
  unfold nDo
  rw [if_neg (fun z => h ((nEnd_hd τ).mp z)), nTop_hd, nK_hd, nN_hd, nStep, nTop_hd, nHd_40]
  rfl
theorem nMid_v {τ : St} {b k n c x : Int} (hc : nC k (τ 41 1 0) n = c) (hx : nJ k (τ 41 1 0) n (τ 40 (b + 49) 0) = x) : nMid τ b k n = ups (ups τ 41 1 0 c) 40 (b + 49) 0 x := by
  unfold nMid
  rw [hc, hx]
theorem nLoop_0 {K : Nat} {n : Int} {τ : St} (h : 8 ≤ n) : nLoop (K + 1) n τ = τ := by
  rw [nLoop, if_neg (by omega)]
theorem nLoop_p {K : Nat} {n : Int} {τ : St} (h : n < 8) (h1 : nEnd τ ∧ 1 < τ 41 0 0) : nLoop (K + 1) n τ = nLoop K n (nPop τ) := by
  rw [nLoop, if_pos h, if_pos h1]
theorem nLoop_l {K : Nat} {n : Int} {τ : St} (h : n < 8) (h1 : ¬ (nEnd τ ∧ 1 < τ 41 0 0)) (h2 : nO τ = 0) : nLoop (K + 1) n τ = nLoop K (n + 1) (nDo (nHd τ)) := by
  rw [nLoop, if_pos h, if_neg h1, if_pos h2]
theorem nLoop_e {K : Nat} {n : Int} {τ : St} (h : n < 8) (h1 : ¬ (nEnd τ ∧ 1 < τ 41 0 0)) (h2 : nO τ ≠ 0) : nLoop (K + 1) n τ = nDo (nHd τ) := by
  rw [nLoop, if_pos h, if_neg h1, if_neg h2]
end NFACTS
