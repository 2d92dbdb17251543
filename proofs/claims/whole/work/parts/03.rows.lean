section WORLD
def ccnt : Nat → Int := fun t => match t with
  | 0 => 1
  | 1 => 1
  | 2 => 1
  | 3 => 1
  | 4 => 1
  | 5 => 1
  | 6 => 32
  | 7 => 32
  | 8 => 32
  | 9 => 6
  | 10 => 6
  | 11 => 6
  | 12 => 6
  | 13 => 6
  | 14 => 10
  | 15 => 10
  | 16 => 10
  | 17 => 10
  | 18 => 12
  | 19 => 12
  | _ => 0
/-- the cells of the first object, read off the numbers -/
def cE (cA : Nat → ClassId) (ad : Nat → Int → Nat) (σ : St) : Nat → Int → va_E := fun t i => match t with
  | 0 => .inr (8, [.ref (ad 1 0), .ref (ad 2 0), .ref (ad 3 0), .ref (ad 4 0), .ref (ad 5 0), .int (zi (σ 26 0 0)), .int (zi (σ 27 0 0)), .int (zi (σ 28 0 0)), .long (zl (σ 29 0 0))])
  | 1 => .inl (cA 3, 8, .inr (.inr (.inr (.inr (fun j => some (ad 6 (j : Int)))))))
  | 2 => .inl (cA 4, 6, .inr (.inr (.inr (.inr (fun j => some (ad 9 (j : Int)))))))
  | 3 => .inl (cA 5, 6, .inr (.inr (.inr (.inr (fun j => some (ad 10 (j : Int)))))))
  | 4 => .inl (cA 6, 6, .inr (.inr (.inr (.inr (fun j => some (ad 13 (j : Int)))))))
  | 5 => .inl (cA 7, 10, .inr (.inr (.inr (.inr (fun j => some (ad 14 (j : Int)))))))
  | 6 => .inr (6, [.ref (ad 7 i), .ref (ad 8 i), .int (zi (σ 3 i 0))])
  | 7 => .inl (cA 0, 20, .inl (fun j => zi (σ 1 i (j : Int))))
  | 8 => .inl (cA 1, 20, .inl (fun j => zi (σ 2 i (j : Int))))
  | 9 => .inr (3, [.ref (ad 18 i), .int (zi (σ 12 i 0)), .int (zi (σ 13 i 0)), .int (zi (σ 14 i 0)), .int (zi (σ 15 i 0))])
  | 10 => .inr (4, [.ref (ad 11 i), .ref (ad 12 i), .int (zi (σ 5 i 0)), .int (zi (σ 6 i 0)), .int (zi (σ 7 i 0)), .int (zi (σ 8 i 0)), .int (zi (σ 9 i 0)), .int (zi (σ 10 i 0)), .int (zi (σ 11 i 0))])
  | 11 => .inl (cA 3, 4, .inr (.inr (.inr (.inr (fun j => some (ad 6 (8 + 4 * i + (j : Int))))))))
  | 12 => .inl (cA 1, 4, .inl (fun j => zi (σ 4 i (j : Int))))
  | 13 => .inr (2, [.ref (ad 18 (6 + i)), .int (zi (σ 18 i 0))])
  | 14 => .inr (7, [.ref (ad 15 i), .ref (ad 16 i), .ref (ad 17 i), .int (zi (σ 22 i 0))])
  | 15 => .inl (cA 1, 100, .inl (fun j => zi (σ 19 i (j : Int))))
  | 16 => .inl (cA 1, 100, .inl (fun j => zi (σ 20 i (j : Int))))
  | 17 => .inl (cA 2, 100, .inl (fun j => zi (σ 21 i (j : Int))))
  | 18 => .inr (5, [.ref (ad 19 i), .int (zi (σ 17 i 0))])
  | 19 => .inl (cA 1, 6, .inl (fun j => zi (σ 16 i (j : Int))))
  | _ => .inr (0, [])
def mcnt : Nat → Int := fun t => if t ≤ 26 then 1 else 0
/-- the cells of the second -/
def mE (cA : Nat → ClassId) (ad : Nat → Int → Nat) (σ : St) : Nat → Int → va_E := fun t _ => match t with
  | 0 => .inr (9, [.ref (ad 1 0), .ref (ad 2 0), .ref (ad 3 0), .ref (ad 4 0), .ref (ad 5 0), .ref (ad 6 0), .ref (ad 7 0), .ref (ad 8 0), .ref (ad 9 0), .ref (ad 10 0), .ref (ad 11 0), .ref (ad 12 0), .ref (ad 13 0), .ref (ad 14 0), .ref (ad 15 0), .ref (ad 16 0), .ref (ad 17 0), .ref (ad 18 0), .ref (ad 19 0), .ref (ad 20 0), .ref (ad 21 0), .ref (ad 22 0), .ref (ad 23 0), .ref (ad 24 0), .ref (ad 25 0), .ref (ad 26 0), .int (zi (σ 26 0 0)), .int (zi (σ 27 0 0)), .int (zi (σ 28 0 0)), .int (zi (σ 30 0 0)), .int (zi (σ 31 0 0)), .long (zl (σ 29 0 0))])
  | 1 => .inl (cA 1, 8, .inl (fun j => zi (σ 3 (j : Int) 0)))
  | 2 => .inl (cA 1, 160, .inl (fun j => zi (σ 1 ((j : Int) / 20) ((j : Int) % 20))))
  | 3 => .inl (cA 1, 160, .inl (fun j => zi (σ 2 ((j : Int) / 20) ((j : Int) % 20))))
  | 4 => .inl (cA 1, 24, .inl (fun j => zi (σ 3 (8 + (j : Int)) 0)))
  | 5 => .inl (cA 1, 480, .inl (fun j => zi (σ 1 (8 + (j : Int) / 20) ((j : Int) % 20))))
  | 6 => .inl (cA 1, 480, .inl (fun j => zi (σ 2 (8 + (j : Int) / 20) ((j : Int) % 20))))
  | 7 => .inl (cA 1, 24, .inl (fun j => zi (σ 7 ((j : Int) / 4) ((j : Int) % 4))))
  | 8 => .inl (cA 1, 24, .inl (fun j => zi (σ 4 ((j : Int) / 4) ((j : Int) % 4))))
  | 9 => .inl (cA 2, 6, .inl (fun j => zi (σ 6 (j : Int) 0)))
  | 10 => .inl (cA 2, 6, .inl (fun j => zi (σ 12 (j : Int) 0)))
  | 11 => .inl (cA 2, 6, .inl (fun j => zi (σ 13 (j : Int) 0)))
  | 12 => .inl (cA 1, 6, .inl (fun j => zi (σ 24 (j : Int) 0)))
  | 13 => .inl (cA 1, 6, .inl (fun j => zi (σ 8 (j : Int) 0)))
  | 14 => .inl (cA 1, 6, .inl (fun j => zi (σ 9 (j : Int) 0)))
  | 15 => .inl (cA 1, 6, .inl (fun j => zi (σ 10 (j : Int) 0)))
  | 16 => .inl (cA 1, 6, .inl (fun j => zi (σ 25 (j : Int) 0)))
  | 17 => .inl (cA 1, 6, .inl (fun j => zi (σ 23 (j : Int) 0)))
  | 18 => .inl (cA 1, 6, .inl (fun j => zi (σ 15 (j : Int) 0)))
  | 19 => .inl (cA 1, 36, .inl (fun j => zi (σ 16 ((j : Int) / 6) ((j : Int) % 6))))
  | 20 => .inl (cA 1, 6, .inl (fun j => zi (σ 17 (j : Int) 0)))
  | 21 => .inl (cA 1, 6, .inl (fun j => zi (σ 18 (j : Int) 0)))
  | 22 => .inl (cA 1, 36, .inl (fun j => zi (σ 16 (6 + (j : Int) / 6) ((j : Int) % 6))))
  | 23 => .inl (cA 1, 6, .inl (fun j => zi (σ 17 (6 + (j : Int)) 0)))
  | 24 => .inl (cA 1, 1000, .inl (fun j => zi (σ 19 ((j : Int) / 100) ((j : Int) % 100))))
  | 25 => .inl (cA 1, 10, .inl (fun j => zi (σ 22 (j : Int) 0)))
  | 26 => .inl (cA 2, 1000, .inl (fun j => zi (σ 21 ((j : Int) / 100) ((j : Int) % 100))))
  | _ => .inr (0, [])
/-- the cell in which a number lies; 99: in none -/
def cow : Nat → Int → Int → Nat × Int := fun u a b => match u with
  | 1 => (7, a)
  | 2 => (8, a)
  | 3 => (6, a)
  | 4 => (12, a)
  | 5 => (10, a)
  | 6 => (10, a)
  | 7 => if b = 0 then (10, a) else (99, 0)
  | 8 => (10, a)
  | 9 => (10, a)
  | 10 => (10, a)
  | 11 => (10, a)
  | 12 => (9, a)
  | 13 => (9, a)
  | 14 => (9, a)
  | 15 => (9, a)
  | 16 => (19, a)
  | 17 => (18, a)
  | 18 => (13, a)
  | 19 => (15, a)
  | 20 => (16, a)
  | 21 => (17, a)
  | 22 => (14, a)
  | 26 => (0, 0)
  | 27 => (0, 0)
  | 28 => (0, 0)
  | 29 => (0, 0)
  | _ => (99, 0)
def mow : Nat → Int → Nat := fun u a => match u with
  | 1 => if a < 8 then 2 else 5
  | 2 => if a < 8 then 3 else 6
  | 3 => if a < 8 then 1 else 4
  | 4 => 8
  | 6 => 9
  | 7 => 7
  | 8 => 13
  | 9 => 14
  | 10 => 15
  | 12 => 10
  | 13 => 11
  | 15 => 18
  | 16 => if a < 6 then 19 else 22
  | 17 => if a < 6 then 20 else 23
  | 18 => 21
  | 19 => 24
  | 21 => 26
  | 22 => 25
  | 23 => 17
  | 24 => 12
  | 25 => 16
  | 26 => 0
  | 27 => 0
  | 28 => 0
  | 29 => 0
  | 30 => 0
  | 31 => 0
  | _ => 99
/-- two contents of a cell that are the same to the machine -/
def veq (e e' : va_E) : Prop := e = e' ∨ ∃ (c : ClassId) (n : Nat) (f f' : Nat → Int32), e = .inl (c, n, .inl f) ∧ e' = .inl (c, n, .inl f') ∧ ∀ j : Nat, j < n → f j = f' j
theorem veq.rf {e : va_E} : veq e e := Or.inl rfl
theorem veq.symm {e e' : va_E} (h : veq e e') : veq e' e := by
  rcases h with h | ⟨c, n, f, f', h1, h2, h3⟩
  · exact Or.inl h.symm
  · exact Or.inr ⟨c, n, f', f, h2, h1, fun j hj => (h3 j hj).symm⟩
theorem veq.at {Dg : va_G} {a : Nat} {e e' : va_E} {H : Heap} (h : veq e e') (hh : va_at Dg vwCl (a, e) H) : va_at Dg vwCl (a, e') H := by
  rcases h with h | ⟨c, n, f, f', rfl, rfl, h3⟩
  · rw [← h]; exact hh
  · have h4 : H[a]? = some (vp_cell c (n, .inl f)) := hh
    show H[a]? = some (vp_cell c (n, .inl f'))
    rw [h4, vp_cell_i, vp_cell_i]
    congr 1
    exact arrV_congr (fun j hj => by rw [h3 j hj])
theorem WP.conv {Dg : va_G} {cnt : Nat → Int} {ad : Nat → Int → Nat} {E E' : Nat → Int → va_E} {H : Heap} (h : WP Dg cnt ad E H) (hv : ∀ (t : Nat) (i : Int), 0 ≤ i → i < cnt t → veq (E t i) (E' t i)) : WP Dg cnt ad E' H := fun t i h0 h1 => (hv t i h0 h1).at (h t i h0 h1)
theorem ccnt_lt {t : Nat} {i : Int} (h0 : 0 ≤ i) (h1 : i < ccnt t) : t < 20 := by
  rcases Nat.lt_or_ge t 20 with h | h
  · exact h
  · exfalso
    obtain ⟨k, rfl⟩ : ∃ k, t = k + 20 := ⟨t - 20, by omega⟩
    have h2 : i < 0 := h1
    omega
theorem mcnt_lt {t : Nat} {i : Int} (h0 : 0 ≤ i) (h1 : i < mcnt t) : t < 27 ∧ i = 0 := by
  unfold mcnt at h1
  split at h1 <;> omega
/-- a cell speaks of its own numbers alone -/
theorem cE_dep (cA : Nat → ClassId) (ad : Nat → Int → Nat) {σ σ' : St} {t : Nat} {i : Int} (h0 : 0 ≤ i) (h1 : i < ccnt t) (h : ∀ (u : Nat) (a b : Int), cow u a b = (t, i) → σ u a b = σ' u a b) : veq (cE cA ad σ t i) (cE cA ad σ' t i) := by
  have ht := ccnt_lt h0 h1
  rcases (show t = 0 ∨ t = 1 ∨ t = 2 ∨ t = 3 ∨ t = 4 ∨ t = 5 ∨ t = 6 ∨ t = 7 ∨ t = 8 ∨ t = 9 ∨ t = 10 ∨ t = 11 ∨ t = 12 ∨ t = 13 ∨ t = 14 ∨ t = 15 ∨ t = 16 ∨ t = 17 ∨ t = 18 ∨ t = 19 by omega) with rfl | rfl | rfl | rfl | rfl | rfl | rfl | rfl | rfl | rfl | rfl | rfl | rfl | rfl | rfl | rfl | rfl | rfl | rfl | rfl
  · have hi : i = 0 := by have h2 : i < 1 := h1; omega
    subst hi
    refine Or.inl ?_
    simp only [cE, h 26 0 0 rfl, h 27 0 0 rfl, h 28 0 0 rfl, h 29 0 0 rfl]
  · exact Or.inl rfl
  · exact Or.inl rfl
  · exact Or.inl rfl
  · exact Or.inl rfl
  · exact Or.inl rfl
  · refine Or.inl ?_
    simp only [cE, h 3 i 0 rfl]
  · exact Or.inr ⟨_, _, _, _, rfl, rfl, fun j _ => by rw [h 1 i (j : Int) rfl]⟩
  · exact Or.inr ⟨_, _, _, _, rfl, rfl, fun j _ => by rw [h 2 i (j : Int) rfl]⟩
  · refine Or.inl ?_
    simp only [cE, h 12 i 0 rfl, h 13 i 0 rfl, h 14 i 0 rfl, h 15 i 0 rfl]
  · refine Or.inl ?_
    simp only [cE, h 5 i 0 rfl, h 6 i 0 rfl, h 7 i 0 rfl, h 8 i 0 rfl, h 9 i 0 rfl, h 10 i 0 rfl, h 11 i 0 rfl]
  · exact Or.inl rfl
  · exact Or.inr ⟨_, _, _, _, rfl, rfl, fun j _ => by rw [h 4 i (j : Int) rfl]⟩
  · refine Or.inl ?_
    simp only [cE, h 18 i 0 rfl]
  · refine Or.inl ?_
    simp only [cE, h 22 i 0 rfl]
  · exact Or.inr ⟨_, _, _, _, rfl, rfl, fun j _ => by rw [h 19 i (j : Int) rfl]⟩
  · exact Or.inr ⟨_, _, _, _, rfl, rfl, fun j _ => by rw [h 20 i (j : Int) rfl]⟩
  · exact Or.inr ⟨_, _, _, _, rfl, rfl, fun j _ => by rw [h 21 i (j : Int) rfl]⟩
  · refine Or.inl ?_
    simp only [cE, h 17 i 0 rfl]
  · exact Or.inr ⟨_, _, _, _, rfl, rfl, fun j _ => by rw [h 16 i (j : Int) rfl]⟩
theorem mE_dep (cA : Nat → ClassId) (ad : Nat → Int → Nat) {σ σ' : St} {t : Nat} {i : Int} (h0 : 0 ≤ i) (h1 : i < mcnt t) (h : ∀ (u : Nat) (a b : Int), mow u a = t → σ u a b = σ' u a b) : veq (mE cA ad σ t i) (mE cA ad σ' t i) := by
  obtain ⟨ht, rfl⟩ := mcnt_lt h0 h1
  rcases (show t = 0 ∨ t = 1 ∨ t = 2 ∨ t = 3 ∨ t = 4 ∨ t = 5 ∨ t = 6 ∨ t = 7 ∨ t = 8 ∨ t = 9 ∨ t = 10 ∨ t = 11 ∨ t = 12 ∨ t = 13 ∨ t = 14 ∨ t = 15 ∨ t = 16 ∨ t = 17 ∨ t = 18 ∨ t = 19 ∨ t = 20 ∨ t = 21 ∨ t = 22 ∨ t = 23 ∨ t = 24 ∨ t = 25 ∨ t = 26 by omega) with rfl | rfl | rfl | rfl | rfl | rfl | rfl | rfl | rfl | rfl | rfl | rfl | rfl | rfl | rfl | rfl | rfl | rfl | rfl | rfl | rfl | rfl | rfl | rfl | rfl | rfl | rfl
  · refine Or.inl ?_
    simp only [mE, h 26 0 0 rfl, h 27 0 0 rfl, h 28 0 0 rfl, h 30 0 0 rfl, h 31 0 0 rfl, h 29 0 0 rfl]
  · exact Or.inr ⟨_, _, _, _, rfl, rfl, fun j hj => by rw [h 3 (j : Int) 0 (by first | rfl | (simp only [mow]; rw [if_pos (by omega)]) | (simp only [mow]; rw [if_neg (by omega)]))]⟩
  · exact Or.inr ⟨_, _, _, _, rfl, rfl, fun j hj => by rw [h 1 ((j : Int) / 20) ((j : Int) % 20) (by first | rfl | (simp only [mow]; rw [if_pos (by omega)]) | (simp only [mow]; rw [if_neg (by omega)]))]⟩
  · exact Or.inr ⟨_, _, _, _, rfl, rfl, fun j hj => by rw [h 2 ((j : Int) / 20) ((j : Int) % 20) (by first | rfl | (simp only [mow]; rw [if_pos (by omega)]) | (simp only [mow]; rw [if_neg (by omega)]))]⟩
  · exact Or.inr ⟨_, _, _, _, rfl, rfl, fun j hj => by rw [h 3 (8 + (j : Int)) 0 (by first | rfl | (simp only [mow]; rw [if_pos (by omega)]) | (simp only [mow]; rw [if_neg (by omega)]))]⟩
  · exact Or.inr ⟨_, _, _, _, rfl, rfl, fun j hj => by rw [h 1 (8 + (j : Int) / 20) ((j : Int) % 20) (by first | rfl | (simp only [mow]; rw [if_pos (by omega)]) | (simp only [mow]; rw [if_neg (by omega)]))]⟩
  · exact Or.inr ⟨_, _, _, _, rfl, rfl, fun j hj => by rw [h 2 (8 + (j : Int) / 20) ((j : Int) % 20) (by first | rfl | (simp only [mow]; rw [if_pos (by omega)]) | (simp only [mow]; rw [if_neg (by omega)]))]⟩
  · exact Or.inr ⟨_, _, _, _, rfl, rfl, fun j hj => by rw [h 7 ((j : Int) / 4) ((j : Int) % 4) (by first | rfl | (simp only [mow]; rw [if_pos (by omega)]) | (simp only [mow]; rw [if_neg (by omega)]))]⟩
  · exact Or.inr ⟨_, _, _, _, rfl, rfl, fun j hj => by rw [h 4 ((j : Int) / 4) ((j : Int) % 4) (by first | rfl | (simp only [mow]; rw [if_pos (by omega)]) | (simp only [mow]; rw [if_neg (by omega)]))]⟩
  · exact Or.inr ⟨_, _, _, _, rfl, rfl, fun j hj => by rw [h 6 (j : Int) 0 (by first | rfl | (simp only [mow]; rw [if_pos (by omega)]) | (simp only [mow]; rw [if_neg (by omega)]))]⟩
  · exact Or.inr ⟨_, _, _, _, rfl, rfl, fun j hj => by rw [h 12 (j : Int) 0 (by first | rfl | (simp only [mow]; rw [if_pos (by omega)]) | (simp only [mow]; rw [if_neg (by omega)]))]⟩
  · exact Or.inr ⟨_, _, _, _, rfl, rfl, fun j hj => by rw [h 13 (j : Int) 0 (by first | rfl | (simp only [mow]; rw [if_pos (by omega)]) | (simp only [mow]; rw [if_neg (by omega)]))]⟩
  · exact Or.inr ⟨_, _, _, _, rfl, rfl, fun j hj => by rw [h 24 (j : Int) 0 (by first | rfl | (simp only [mow]; rw [if_pos (by omega)]) | (simp only [mow]; rw [if_neg (by omega)]))]⟩
  · exact Or.inr ⟨_, _, _, _, rfl, rfl, fun j hj => by rw [h 8 (j : Int) 0 (by first | rfl | (simp only [mow]; rw [if_pos (by omega)]) | (simp only [mow]; rw [if_neg (by omega)]))]⟩
  · exact Or.inr ⟨_, _, _, _, rfl, rfl, fun j hj => by rw [h 9 (j : Int) 0 (by first | rfl | (simp only [mow]; rw [if_pos (by omega)]) | (simp only [mow]; rw [if_neg (by omega)]))]⟩
  · exact Or.inr ⟨_, _, _, _, rfl, rfl, fun j hj => by rw [h 10 (j : Int) 0 (by first | rfl | (simp only [mow]; rw [if_pos (by omega)]) | (simp only [mow]; rw [if_neg (by omega)]))]⟩
  · exact Or.inr ⟨_, _, _, _, rfl, rfl, fun j hj => by rw [h 25 (j : Int) 0 (by first | rfl | (simp only [mow]; rw [if_pos (by omega)]) | (simp only [mow]; rw [if_neg (by omega)]))]⟩
  · exact Or.inr ⟨_, _, _, _, rfl, rfl, fun j hj => by rw [h 23 (j : Int) 0 (by first | rfl | (simp only [mow]; rw [if_pos (by omega)]) | (simp only [mow]; rw [if_neg (by omega)]))]⟩
  · exact Or.inr ⟨_, _, _, _, rfl, rfl, fun j hj => by rw [h 15 (j : Int) 0 (by first | rfl | (simp only [mow]; rw [if_pos (by omega)]) | (simp only [mow]; rw [if_neg (by omega)]))]⟩
  · exact Or.inr ⟨_, _, _, _, rfl, rfl, fun j hj => by rw [h 16 ((j : Int) / 6) ((j : Int) % 6) (by first | rfl | (simp only [mow]; rw [if_pos (by omega)]) | (simp only [mow]; rw [if_neg (by omega)]))]⟩
  · exact Or.inr ⟨_, _, _, _, rfl, rfl, fun j hj => by rw [h 17 (j : Int) 0 (by first | rfl | (simp only [mow]; rw [if_pos (by omega)]) | (simp only [mow]; rw [if_neg (by omega)]))]⟩
  · exact Or.inr ⟨_, _, _, _, rfl, rfl, fun j hj => by rw [h 18 (j : Int) 0 (by first | rfl | (simp only [mow]; rw [if_pos (by omega)]) | (simp only [mow]; rw [if_neg (by omega)]))]⟩
  · exact Or.inr ⟨_, _, _, _, rfl, rfl, fun j hj => by rw [h 16 (6 + (j : Int) / 6) ((j : Int) % 6) (by first | rfl | (simp only [mow]; rw [if_pos (by omega)]) | (simp only [mow]; rw [if_neg (by omega)]))]⟩
  · exact Or.inr ⟨_, _, _, _, rfl, rfl, fun j hj => by rw [h 17 (6 + (j : Int)) 0 (by first | rfl | (simp only [mow]; rw [if_pos (by omega)]) | (simp only [mow]; rw [if_neg (by omega)]))]⟩
  · exact Or.inr ⟨_, _, _, _, rfl, rfl, fun j hj => by rw [h 19 ((j : Int) / 100) ((j : Int) % 100) (by first | rfl | (simp only [mow]; rw [if_pos (by omega)]) | (simp only [mow]; rw [if_neg (by omega)]))]⟩
  · exact Or.inr ⟨_, _, _, _, rfl, rfl, fun j hj => by rw [h 22 (j : Int) 0 (by first | rfl | (simp only [mow]; rw [if_pos (by omega)]) | (simp only [mow]; rw [if_neg (by omega)]))]⟩
  · exact Or.inr ⟨_, _, _, _, rfl, rfl, fun j hj => by rw [h 21 ((j : Int) / 100) ((j : Int) % 100) (by first | rfl | (simp only [mow]; rw [if_pos (by omega)]) | (simp only [mow]; rw [if_neg (by omega)]))]⟩
/-- one number written -/
theorem cE_ups {Dg : va_G} {cA : Nat → ClassId} {ad : Nat → Int → Nat} {σ : St} {H : Heap} {T : Nat} {I : Int} {e : va_E} (t : Nat) (x y v : Int) (ho : cow t x y = (T, I)) (hn : veq e (cE cA ad (ups σ t x y v) T I)) (h : WP Dg ccnt ad (upE (cE cA ad σ) T I e) H) : WP Dg ccnt ad (cE cA ad (ups σ t x y v)) H := by
  refine h.conv (fun t' i' h0 h1 => ?_)
  unfold upE
  by_cases hx : t' = T ∧ i' = I
  · obtain ⟨rfl, rfl⟩ := hx
    rw [if_pos ⟨rfl, rfl⟩]
    exact hn
  · rw [if_neg hx]
    refine cE_dep cA ad h0 h1 (fun u a b hu => ?_)
    unfold ups
    rw [if_neg]
    rintro ⟨rfl, rfl, rfl⟩
    rw [ho] at hu
    cases hu
    exact hx ⟨rfl, rfl⟩
theorem mE_ups {Dg : va_G} {cA : Nat → ClassId} {ad : Nat → Int → Nat} {σ : St} {H : Heap} {T : Nat} {e : va_E} (t : Nat) (x y v : Int) (ho : mow t x = T) (hn : veq e (mE cA ad (ups σ t x y v) T 0)) (h : WP Dg mcnt ad (upE (mE cA ad σ) T 0 e) H) : WP Dg mcnt ad (mE cA ad (ups σ t x y v)) H := by
  refine h.conv (fun t' i' h0 h1 => ?_)
  have hi := (mcnt_lt h0 h1).2
  subst hi
  unfold upE
  by_cases hx : t' = T
  · subst hx
    rw [if_pos ⟨rfl, rfl⟩]
    exact hn
  · rw [if_neg (fun z => hx z.1)]
    refine mE_dep cA ad h0 h1 (fun u a b hu => ?_)
    unfold ups
    rw [if_neg]
    rintro ⟨rfl, rfl, rfl⟩
    exact hx (hu.symm.trans ho)
/-- worlds of numbers that agree where cells speak of them -/
theorem cE_same {Dg : va_G} {cA : Nat → ClassId} {ad : Nat → Int → Nat} {σ σ' : St} {H : Heap} (h : WP Dg ccnt ad (cE cA ad σ) H) (hs : ∀ (u : Nat) (a b : Int), (cow u a b).1 ≠ 99 → σ u a b = σ' u a b) : WP Dg ccnt ad (cE cA ad σ') H :=
  h.conv (fun t i h0 h1 => cE_dep cA ad h0 h1 (fun u a b hu => hs u a b (by rw [hu]; exact fun z => by have := ccnt_lt h0 h1; have z : t = 99 := z; omega)))
theorem mE_same {Dg : va_G} {cA : Nat → ClassId} {ad : Nat → Int → Nat} {σ σ' : St} {H : Heap} (h : WP Dg mcnt ad (mE cA ad σ) H) (hs : ∀ (u : Nat) (a b : Int), mow u a ≠ 99 → σ u a b = σ' u a b) : WP Dg mcnt ad (mE cA ad σ') H :=
  h.conv (fun t i h0 h1 => mE_dep cA ad h0 h1 (fun u a b hu => hs u a b (by rw [hu]; exact fun z => by have := (mcnt_lt h0 h1).1; omega)))
end WORLD
section FIELDROWS
variable {p : Program} {l : Launch} {e : Env} {R : Room} {s : State} {m : MethodId} {args : Array Value} {below : List Frame} {meth : Method} {c : Code} {H H0 : Heap} {locs : List Loc} {cells slots : Nat} {Q : State → Prop} {cc : ByteArray} {pc index : Nat} {ls : Array Slot} {rest : List Value} {own : String} {Ts : List Cond} {Dg : va_G} {cA : Nat → ClassId} {ad : Nat → Int → Nat} {A : Nat → Prop} {σ : St}
theorem cg_KR_reels (hC : CX p c cc s m args own Ts Dg cA ccnt ad A) (hW : WP Dg ccnt ad (cE cA ad σ) H) (hin : ∀ w ∈ wsX70, w ∈ Ts) (hl : (Cond.fieldLink own index "KioskReel" "reels" "[LKioskReel$Reel;").before args s = true) (hdg : decode cc pc = .ok (.getfield index, 3)) (kk : W p l e R s m args below meth c H locs cells slots Q (F0 m (pc + 3) ls (.ref (ad 1 0) :: rest))) : W p l e R s m args below meth c H locs cells slots Q (F0 m pc ls (.ref (ad 0 0) :: rest)) :=
  r_get (N := 9) (ci := 8) (T := TX7) (C := RX7) hC hW hin rfl 0 (by decide) hl (fun _ h => h) (by decide) (by decide) rfl rfl hdg kk
theorem cg_KR_kiosks (hC : CX p c cc s m args own Ts Dg cA ccnt ad A) (hW : WP Dg ccnt ad (cE cA ad σ) H) (hin : ∀ w ∈ wsX70, w ∈ Ts) (hl : (Cond.fieldLink own index "KioskReel" "kiosks" "[LKioskReel$Kiosk;").before args s = true) (hdg : decode cc pc = .ok (.getfield index, 3)) (kk : W p l e R s m args below meth c H locs cells slots Q (F0 m (pc + 3) ls (.ref (ad 2 0) :: rest))) : W p l e R s m args below meth c H locs cells slots Q (F0 m pc ls (.ref (ad 0 0) :: rest)) :=
  r_get (N := 9) (ci := 8) (T := TX7) (C := RX7) hC hW hin rfl 1 (by decide) hl (fun _ h => h) (by decide) (by decide) rfl rfl hdg kk
theorem cg_KR_players (hC : CX p c cc s m args own Ts Dg cA ccnt ad A) (hW : WP Dg ccnt ad (cE cA ad σ) H) (hin : ∀ w ∈ wsX70, w ∈ Ts) (hl : (Cond.fieldLink own index "KioskReel" "players" "[LKioskReel$Player;").before args s = true) (hdg : decode cc pc = .ok (.getfield index, 3)) (kk : W p l e R s m args below meth c H locs cells slots Q (F0 m (pc + 3) ls (.ref (ad 3 0) :: rest))) : W p l e R s m args below meth c H locs cells slots Q (F0 m pc ls (.ref (ad 0 0) :: rest)) :=
  r_get (N := 9) (ci := 8) (T := TX7) (C := RX7) hC hW hin rfl 2 (by decide) hl (fun _ h => h) (by decide) (by decide) rfl rfl hdg kk
theorem cg_KR_devices (hC : CX p c cc s m args own Ts Dg cA ccnt ad A) (hW : WP Dg ccnt ad (cE cA ad σ) H) (hin : ∀ w ∈ wsX70, w ∈ Ts) (hl : (Cond.fieldLink own index "KioskReel" "devices" "[LKioskReel$Device;").before args s = true) (hdg : decode cc pc = .ok (.getfield index, 3)) (kk : W p l e R s m args below meth c H locs cells slots Q (F0 m (pc + 3) ls (.ref (ad 4 0) :: rest))) : W p l e R s m args below meth c H locs cells slots Q (F0 m pc ls (.ref (ad 0 0) :: rest)) :=
  r_get (N := 9) (ci := 8) (T := TX7) (C := RX7) hC hW hin rfl 3 (by decide) hl (fun _ h => h) (by decide) (by decide) rfl rfl hdg kk
theorem cg_KR_visitors (hC : CX p c cc s m args own Ts Dg cA ccnt ad A) (hW : WP Dg ccnt ad (cE cA ad σ) H) (hin : ∀ w ∈ wsX70, w ∈ Ts) (hl : (Cond.fieldLink own index "KioskReel" "visitors" "[LKioskReel$Visitor;").before args s = true) (hdg : decode cc pc = .ok (.getfield index, 3)) (kk : W p l e R s m args below meth c H locs cells slots Q (F0 m (pc + 3) ls (.ref (ad 5 0) :: rest))) : W p l e R s m args below meth c H locs cells slots Q (F0 m pc ls (.ref (ad 0 0) :: rest)) :=
  r_get (N := 9) (ci := 8) (T := TX7) (C := RX7) hC hW hin rfl 4 (by decide) hl (fun _ h => h) (by decide) (by decide) rfl rfl hdg kk
theorem cg_KR_reelCount (hC : CX p c cc s m args own Ts Dg cA ccnt ad A) (hW : WP Dg ccnt ad (cE cA ad σ) H) (hin : ∀ w ∈ wsX70, w ∈ Ts) (hl : (Cond.fieldLink own index "KioskReel" "reelCount" "I").before args s = true) {v : Int} (hv : σ 26 0 0 = v) (hdg : decode cc pc = .ok (.getfield index, 3)) (kk : W p l e R s m args below meth c H locs cells slots Q (F0 m (pc + 3) ls (.int (zi v) :: rest))) : W p l e R s m args below meth c H locs cells slots Q (F0 m pc ls (.ref (ad 0 0) :: rest)) :=
  r_get (N := 9) (ci := 8) (T := TX7) (C := RX7) hC hW hin rfl 5 (by decide) hl (fun _ h => h) (by decide) (by decide) rfl rfl hdg (by rw [hv]; exact kk)
theorem cp_KR_reelCount (hC : CX p c cc s m args own Ts Dg cA ccnt ad A) (hW : WP Dg ccnt ad (cE cA ad σ) H) (hin : ∀ w ∈ wsX70, w ∈ Ts) (hl : (Cond.fieldLink own index "KioskReel" "reelCount" "I").before args s = true) (hS : va_S A H0 H locs) {v : Int} (hdg : decode cc pc = .ok (.putfield index, 3)) (kk : ∀ (H1 : Heap) (locs1 : List Loc), WP Dg ccnt ad (cE cA ad (ups σ 26 0 0 v)) H1 → va_S A H0 H1 locs1 → W p l e R s m args below meth c H1 locs1 cells slots Q (F0 m (pc + 3) ls rest)) : W p l e R s m args below meth c H locs cells slots Q (F0 m pc ls (.int (zi v) :: .ref (ad 0 0) :: rest)) :=
  r_put (N := 9) (ci := 8) (T := TX7) (C := RX7) (ty := .int) hC hW hS hin tyX7 tyX7_ok nmX7 rfl 5 (by decide) hl (fun _ h => h) rfl (by decide +kernel) rfl rfl (by decide) (by decide) rfl (Nat.le_of_ble_eq_true rfl) rfl hdg (fun H1 locs1 hW1 hS1 => kk H1 locs1 (cE_ups 26 0 0 v rfl (Or.inl (by simp only [cE, ups]; simp)) hW1) hS1)
theorem cg_KR_kioskCount (hC : CX p c cc s m args own Ts Dg cA ccnt ad A) (hW : WP Dg ccnt ad (cE cA ad σ) H) (hin : ∀ w ∈ wsX70, w ∈ Ts) (hl : (Cond.fieldLink own index "KioskReel" "kioskCount" "I").before args s = true) {v : Int} (hv : σ 27 0 0 = v) (hdg : decode cc pc = .ok (.getfield index, 3)) (kk : W p l e R s m args below meth c H locs cells slots Q (F0 m (pc + 3) ls (.int (zi v) :: rest))) : W p l e R s m args below meth c H locs cells slots Q (F0 m pc ls (.ref (ad 0 0) :: rest)) :=
  r_get (N := 9) (ci := 8) (T := TX7) (C := RX7) hC hW hin rfl 6 (by decide) hl (fun _ h => h) (by decide) (by decide) rfl rfl hdg (by rw [hv]; exact kk)
theorem cp_KR_kioskCount (hC : CX p c cc s m args own Ts Dg cA ccnt ad A) (hW : WP Dg ccnt ad (cE cA ad σ) H) (hin : ∀ w ∈ wsX70, w ∈ Ts) (hl : (Cond.fieldLink own index "KioskReel" "kioskCount" "I").before args s = true) (hS : va_S A H0 H locs) {v : Int} (hdg : decode cc pc = .ok (.putfield index, 3)) (kk : ∀ (H1 : Heap) (locs1 : List Loc), WP Dg ccnt ad (cE cA ad (ups σ 27 0 0 v)) H1 → va_S A H0 H1 locs1 → W p l e R s m args below meth c H1 locs1 cells slots Q (F0 m (pc + 3) ls rest)) : W p l e R s m args below meth c H locs cells slots Q (F0 m pc ls (.int (zi v) :: .ref (ad 0 0) :: rest)) :=
  r_put (N := 9) (ci := 8) (T := TX7) (C := RX7) (ty := .int) hC hW hS hin tyX7 tyX7_ok nmX7 rfl 6 (by decide) hl (fun _ h => h) rfl (by decide +kernel) rfl rfl (by decide) (by decide) rfl (Nat.le_of_ble_eq_true rfl) rfl hdg (fun H1 locs1 hW1 hS1 => kk H1 locs1 (cE_ups 27 0 0 v rfl (Or.inl (by simp only [cE, ups]; simp)) hW1) hS1)
theorem cg_KR_visitorCount (hC : CX p c cc s m args own Ts Dg cA ccnt ad A) (hW : WP Dg ccnt ad (cE cA ad σ) H) (hin : ∀ w ∈ wsX70, w ∈ Ts) (hl : (Cond.fieldLink own index "KioskReel" "visitorCount" "I").before args s = true) {v : Int} (hv : σ 28 0 0 = v) (hdg : decode cc pc = .ok (.getfield index, 3)) (kk : W p l e R s m args below meth c H locs cells slots Q (F0 m (pc + 3) ls (.int (zi v) :: rest))) : W p l e R s m args below meth c H locs cells slots Q (F0 m pc ls (.ref (ad 0 0) :: rest)) :=
  r_get (N := 9) (ci := 8) (T := TX7) (C := RX7) hC hW hin rfl 7 (by decide) hl (fun _ h => h) (by decide) (by decide) rfl rfl hdg (by rw [hv]; exact kk)
theorem cp_KR_visitorCount (hC : CX p c cc s m args own Ts Dg cA ccnt ad A) (hW : WP Dg ccnt ad (cE cA ad σ) H) (hin : ∀ w ∈ wsX70, w ∈ Ts) (hl : (Cond.fieldLink own index "KioskReel" "visitorCount" "I").before args s = true) (hS : va_S A H0 H locs) {v : Int} (hdg : decode cc pc = .ok (.putfield index, 3)) (kk : ∀ (H1 : Heap) (locs1 : List Loc), WP Dg ccnt ad (cE cA ad (ups σ 28 0 0 v)) H1 → va_S A H0 H1 locs1 → W p l e R s m args below meth c H1 locs1 cells slots Q (F0 m (pc + 3) ls rest)) : W p l e R s m args below meth c H locs cells slots Q (F0 m pc ls (.int (zi v) :: .ref (ad 0 0) :: rest)) :=
  r_put (N := 9) (ci := 8) (T := TX7) (C := RX7) (ty := .int) hC hW hS hin tyX7 tyX7_ok nmX7 rfl 7 (by decide) hl (fun _ h => h) rfl (by decide +kernel) rfl rfl (by decide) (by decide) rfl (Nat.le_of_ble_eq_true rfl) rfl hdg (fun H1 locs1 hW1 hS1 => kk H1 locs1 (cE_ups 28 0 0 v rfl (Or.inl (by simp only [cE, ups]; simp)) hW1) hS1)
theorem cg_KR_linesDone (hC : CX p c cc s m args own Ts Dg cA ccnt ad A) (hW : WP Dg ccnt ad (cE cA ad σ) H) (hin : ∀ w ∈ wsX70, w ∈ Ts) (hl : (Cond.fieldLink own index "KioskReel" "linesDone" "J").before args s = true) {v : Int} (hv : σ 29 0 0 = v) (hdg : decode cc pc = .ok (.getfield index, 3)) (kk : W p l e R s m args below meth c H locs cells slots Q (F0 m (pc + 3) ls (.long (zl v) :: rest))) : W p l e R s m args below meth c H locs cells slots Q (F0 m pc ls (.ref (ad 0 0) :: rest)) :=
  r_get (N := 9) (ci := 8) (T := TX7) (C := RX7) hC hW hin rfl 8 (by decide) hl (fun _ h => h) (by decide) (by decide) rfl rfl hdg (by rw [hv]; exact kk)
theorem cp_KR_linesDone (hC : CX p c cc s m args own Ts Dg cA ccnt ad A) (hW : WP Dg ccnt ad (cE cA ad σ) H) (hin : ∀ w ∈ wsX70, w ∈ Ts) (hl : (Cond.fieldLink own index "KioskReel" "linesDone" "J").before args s = true) (hS : va_S A H0 H locs) {v : Int} (hdg : decode cc pc = .ok (.putfield index, 3)) (kk : ∀ (H1 : Heap) (locs1 : List Loc), WP Dg ccnt ad (cE cA ad (ups σ 29 0 0 v)) H1 → va_S A H0 H1 locs1 → W p l e R s m args below meth c H1 locs1 cells slots Q (F0 m (pc + 3) ls rest)) : W p l e R s m args below meth c H locs cells slots Q (F0 m pc ls (.long (zl v) :: .ref (ad 0 0) :: rest)) :=
  r_put (N := 9) (ci := 8) (T := TX7) (C := RX7) (ty := .long) hC hW hS hin tyX7 tyX7_ok nmX7 rfl 8 (by decide) hl (fun _ h => h) rfl (by decide +kernel) rfl rfl (by decide) (by decide) rfl (Nat.le_of_ble_eq_true rfl) rfl hdg (fun H1 locs1 hW1 hS1 => kk H1 locs1 (cE_ups 29 0 0 v rfl (Or.inl (by simp only [cE, ups]; simp)) hW1) hS1)
theorem cg_Reel_kinds (hC : CX p c cc s m args own Ts Dg cA ccnt ad A) (hW : WP Dg ccnt ad (cE cA ad σ) H) (hin : ∀ w ∈ wsX50, w ∈ Ts) (hl : (Cond.fieldLink own index "KioskReel$Reel" "kinds" "[C").before args s = true) {i : Int} (h : 0 ≤ i ∧ i < 32) (hdg : decode cc pc = .ok (.getfield index, 3)) (kk : W p l e R s m args below meth c H locs cells slots Q (F0 m (pc + 3) ls (.ref (ad 7 i) :: rest))) : W p l e R s m args below meth c H locs cells slots Q (F0 m pc ls (.ref (ad 6 i) :: rest)) :=
  r_get (N := 3) (ci := 6) (T := TX5) (C := RX5) hC hW hin rfl 0 (by decide) hl (fun _ h => h) h.1 h.2 rfl rfl hdg kk
theorem cg_Reel_numbers (hC : CX p c cc s m args own Ts Dg cA ccnt ad A) (hW : WP Dg ccnt ad (cE cA ad σ) H) (hin : ∀ w ∈ wsX50, w ∈ Ts) (hl : (Cond.fieldLink own index "KioskReel$Reel" "numbers" "[I").before args s = true) {i : Int} (h : 0 ≤ i ∧ i < 32) (hdg : decode cc pc = .ok (.getfield index, 3)) (kk : W p l e R s m args below meth c H locs cells slots Q (F0 m (pc + 3) ls (.ref (ad 8 i) :: rest))) : W p l e R s m args below meth c H locs cells slots Q (F0 m pc ls (.ref (ad 6 i) :: rest)) :=
  r_get (N := 3) (ci := 6) (T := TX5) (C := RX5) hC hW hin rfl 1 (by decide) hl (fun _ h => h) h.1 h.2 rfl rfl hdg kk
theorem cg_Reel_size (hC : CX p c cc s m args own Ts Dg cA ccnt ad A) (hW : WP Dg ccnt ad (cE cA ad σ) H) (hin : ∀ w ∈ wsX50, w ∈ Ts) (hl : (Cond.fieldLink own index "KioskReel$Reel" "size" "I").before args s = true) {i : Int} (h : 0 ≤ i ∧ i < 32) {v : Int} (hv : σ 3 i 0 = v) (hdg : decode cc pc = .ok (.getfield index, 3)) (kk : W p l e R s m args below meth c H locs cells slots Q (F0 m (pc + 3) ls (.int (zi v) :: rest))) : W p l e R s m args below meth c H locs cells slots Q (F0 m pc ls (.ref (ad 6 i) :: rest)) :=
  r_get (N := 3) (ci := 6) (T := TX5) (C := RX5) hC hW hin rfl 2 (by decide) hl (fun _ h => h) h.1 h.2 rfl rfl hdg (by rw [hv]; exact kk)
theorem cp_Reel_size (hC : CX p c cc s m args own Ts Dg cA ccnt ad A) (hW : WP Dg ccnt ad (cE cA ad σ) H) (hin : ∀ w ∈ wsX50, w ∈ Ts) (hl : (Cond.fieldLink own index "KioskReel$Reel" "size" "I").before args s = true) {i : Int} (h : 0 ≤ i ∧ i < 32) (hS : va_S A H0 H locs) {v : Int} (hdg : decode cc pc = .ok (.putfield index, 3)) (kk : ∀ (H1 : Heap) (locs1 : List Loc), WP Dg ccnt ad (cE cA ad (ups σ 3 i 0 v)) H1 → va_S A H0 H1 locs1 → W p l e R s m args below meth c H1 locs1 cells slots Q (F0 m (pc + 3) ls rest)) : W p l e R s m args below meth c H locs cells slots Q (F0 m pc ls (.int (zi v) :: .ref (ad 6 i) :: rest)) :=
  r_put (N := 3) (ci := 6) (T := TX5) (C := RX5) (ty := .int) hC hW hS hin tyX5 tyX5_ok nmX5 rfl 2 (by decide) hl (fun _ h => h) rfl (by decide +kernel) rfl rfl h.1 h.2 rfl (Nat.le_of_ble_eq_true rfl) rfl hdg (fun H1 locs1 hW1 hS1 => kk H1 locs1 (cE_ups 3 i 0 v rfl (Or.inl (by simp only [cE, ups]; simp)) hW1) hS1)
theorem cg_Kiosk_playing (hC : CX p c cc s m args own Ts Dg cA ccnt ad A) (hW : WP Dg ccnt ad (cE cA ad σ) H) (hin : ∀ w ∈ wsX10, w ∈ Ts) (hl : (Cond.fieldLink own index "KioskReel$Kiosk" "playing" "LKioskReel$PlayerRow;").before args s = true) {i : Int} (h : 0 ≤ i ∧ i < 6) (hdg : decode cc pc = .ok (.getfield index, 3)) (kk : W p l e R s m args below meth c H locs cells slots Q (F0 m (pc + 3) ls (.ref (ad 18 i) :: rest))) : W p l e R s m args below meth c H locs cells slots Q (F0 m pc ls (.ref (ad 9 i) :: rest)) :=
  r_get (N := 5) (ci := 3) (T := TX1) (C := RX1) hC hW hin rfl 0 (by decide) hl (fun _ h => h) h.1 h.2 rfl rfl hdg kk
theorem cg_Kiosk_frozen (hC : CX p c cc s m args own Ts Dg cA ccnt ad A) (hW : WP Dg ccnt ad (cE cA ad σ) H) (hin : ∀ w ∈ wsX10, w ∈ Ts) (hl : (Cond.fieldLink own index "KioskReel$Kiosk" "frozen" "Z").before args s = true) {i : Int} (h : 0 ≤ i ∧ i < 6) {v : Int} (hv : σ 12 i 0 = v) (hdg : decode cc pc = .ok (.getfield index, 3)) (kk : W p l e R s m args below meth c H locs cells slots Q (F0 m (pc + 3) ls (.int (zi v) :: rest))) : W p l e R s m args below meth c H locs cells slots Q (F0 m pc ls (.ref (ad 9 i) :: rest)) :=
  r_get (N := 5) (ci := 3) (T := TX1) (C := RX1) hC hW hin rfl 1 (by decide) hl (fun _ h => h) h.1 h.2 rfl rfl hdg (by rw [hv]; exact kk)
theorem cp_Kiosk_frozen (hC : CX p c cc s m args own Ts Dg cA ccnt ad A) (hW : WP Dg ccnt ad (cE cA ad σ) H) (hin : ∀ w ∈ wsX10, w ∈ Ts) (hl : (Cond.fieldLink own index "KioskReel$Kiosk" "frozen" "Z").before args s = true) {i : Int} (h : 0 ≤ i ∧ i < 6) (hS : va_S A H0 H locs) {v : Int} (hv : v = 0 ∨ v = 1) (hdg : decode cc pc = .ok (.putfield index, 3)) (kk : ∀ (H1 : Heap) (locs1 : List Loc), WP Dg ccnt ad (cE cA ad (ups σ 12 i 0 v)) H1 → va_S A H0 H1 locs1 → W p l e R s m args below meth c H1 locs1 cells slots Q (F0 m (pc + 3) ls rest)) : W p l e R s m args below meth c H locs cells slots Q (F0 m pc ls (.int (zi v) :: .ref (ad 9 i) :: rest)) :=
  r_put (N := 5) (ci := 3) (T := TX1) (C := RX1) (ty := .boolean) hC hW hS hin tyX1 tyX1_ok nmX1 rfl 1 (by decide) hl (fun _ h => h) rfl (by decide +kernel) (by rcases hv with rfl | rfl <;> decide) (by rcases hv with rfl | rfl <;> decide) h.1 h.2 rfl (Nat.le_of_ble_eq_true rfl) rfl hdg (fun H1 locs1 hW1 hS1 => kk H1 locs1 (cE_ups 12 i 0 v rfl (Or.inl (by simp only [cE, ups]; simp)) hW1) hS1)
theorem cg_Kiosk_out (hC : CX p c cc s m args own Ts Dg cA ccnt ad A) (hW : WP Dg ccnt ad (cE cA ad σ) H) (hin : ∀ w ∈ wsX10, w ∈ Ts) (hl : (Cond.fieldLink own index "KioskReel$Kiosk" "out" "Z").before args s = true) {i : Int} (h : 0 ≤ i ∧ i < 6) {v : Int} (hv : σ 13 i 0 = v) (hdg : decode cc pc = .ok (.getfield index, 3)) (kk : W p l e R s m args below meth c H locs cells slots Q (F0 m (pc + 3) ls (.int (zi v) :: rest))) : W p l e R s m args below meth c H locs cells slots Q (F0 m pc ls (.ref (ad 9 i) :: rest)) :=
  r_get (N := 5) (ci := 3) (T := TX1) (C := RX1) hC hW hin rfl 2 (by decide) hl (fun _ h => h) h.1 h.2 rfl rfl hdg (by rw [hv]; exact kk)
theorem cp_Kiosk_out (hC : CX p c cc s m args own Ts Dg cA ccnt ad A) (hW : WP Dg ccnt ad (cE cA ad σ) H) (hin : ∀ w ∈ wsX10, w ∈ Ts) (hl : (Cond.fieldLink own index "KioskReel$Kiosk" "out" "Z").before args s = true) {i : Int} (h : 0 ≤ i ∧ i < 6) (hS : va_S A H0 H locs) {v : Int} (hv : v = 0 ∨ v = 1) (hdg : decode cc pc = .ok (.putfield index, 3)) (kk : ∀ (H1 : Heap) (locs1 : List Loc), WP Dg ccnt ad (cE cA ad (ups σ 13 i 0 v)) H1 → va_S A H0 H1 locs1 → W p l e R s m args below meth c H1 locs1 cells slots Q (F0 m (pc + 3) ls rest)) : W p l e R s m args below meth c H locs cells slots Q (F0 m pc ls (.int (zi v) :: .ref (ad 9 i) :: rest)) :=
  r_put (N := 5) (ci := 3) (T := TX1) (C := RX1) (ty := .boolean) hC hW hS hin tyX1 tyX1_ok nmX1 rfl 2 (by decide) hl (fun _ h => h) rfl (by decide +kernel) (by rcases hv with rfl | rfl <;> decide) (by rcases hv with rfl | rfl <;> decide) h.1 h.2 rfl (Nat.le_of_ble_eq_true rfl) rfl hdg (fun H1 locs1 hW1 hS1 => kk H1 locs1 (cE_ups 13 i 0 v rfl (Or.inl (by simp only [cE, ups]; simp)) hW1) hS1)
theorem cg_Kiosk_frozenTicks (hC : CX p c cc s m args own Ts Dg cA ccnt ad A) (hW : WP Dg ccnt ad (cE cA ad σ) H) (hin : ∀ w ∈ wsX10, w ∈ Ts) (hl : (Cond.fieldLink own index "KioskReel$Kiosk" "frozenTicks" "I").before args s = true) {i : Int} (h : 0 ≤ i ∧ i < 6) {v : Int} (hv : σ 14 i 0 = v) (hdg : decode cc pc = .ok (.getfield index, 3)) (kk : W p l e R s m args below meth c H locs cells slots Q (F0 m (pc + 3) ls (.int (zi v) :: rest))) : W p l e R s m args below meth c H locs cells slots Q (F0 m pc ls (.ref (ad 9 i) :: rest)) :=
  r_get (N := 5) (ci := 3) (T := TX1) (C := RX1) hC hW hin rfl 3 (by decide) hl (fun _ h => h) h.1 h.2 rfl rfl hdg (by rw [hv]; exact kk)
theorem cp_Kiosk_frozenTicks (hC : CX p c cc s m args own Ts Dg cA ccnt ad A) (hW : WP Dg ccnt ad (cE cA ad σ) H) (hin : ∀ w ∈ wsX10, w ∈ Ts) (hl : (Cond.fieldLink own index "KioskReel$Kiosk" "frozenTicks" "I").before args s = true) {i : Int} (h : 0 ≤ i ∧ i < 6) (hS : va_S A H0 H locs) {v : Int} (hdg : decode cc pc = .ok (.putfield index, 3)) (kk : ∀ (H1 : Heap) (locs1 : List Loc), WP Dg ccnt ad (cE cA ad (ups σ 14 i 0 v)) H1 → va_S A H0 H1 locs1 → W p l e R s m args below meth c H1 locs1 cells slots Q (F0 m (pc + 3) ls rest)) : W p l e R s m args below meth c H locs cells slots Q (F0 m pc ls (.int (zi v) :: .ref (ad 9 i) :: rest)) :=
  r_put (N := 5) (ci := 3) (T := TX1) (C := RX1) (ty := .int) hC hW hS hin tyX1 tyX1_ok nmX1 rfl 3 (by decide) hl (fun _ h => h) rfl (by decide +kernel) rfl rfl h.1 h.2 rfl (Nat.le_of_ble_eq_true rfl) rfl hdg (fun H1 locs1 hW1 hS1 => kk H1 locs1 (cE_ups 14 i 0 v rfl (Or.inl (by simp only [cE, ups]; simp)) hW1) hS1)
theorem cg_Kiosk_lastSlide (hC : CX p c cc s m args own Ts Dg cA ccnt ad A) (hW : WP Dg ccnt ad (cE cA ad σ) H) (hin : ∀ w ∈ wsX10, w ∈ Ts) (hl : (Cond.fieldLink own index "KioskReel$Kiosk" "lastSlide" "I").before args s = true) {i : Int} (h : 0 ≤ i ∧ i < 6) {v : Int} (hv : σ 15 i 0 = v) (hdg : decode cc pc = .ok (.getfield index, 3)) (kk : W p l e R s m args below meth c H locs cells slots Q (F0 m (pc + 3) ls (.int (zi v) :: rest))) : W p l e R s m args below meth c H locs cells slots Q (F0 m pc ls (.ref (ad 9 i) :: rest)) :=
  r_get (N := 5) (ci := 3) (T := TX1) (C := RX1) hC hW hin rfl 4 (by decide) hl (fun _ h => h) h.1 h.2 rfl rfl hdg (by rw [hv]; exact kk)
theorem cp_Kiosk_lastSlide (hC : CX p c cc s m args own Ts Dg cA ccnt ad A) (hW : WP Dg ccnt ad (cE cA ad σ) H) (hin : ∀ w ∈ wsX10, w ∈ Ts) (hl : (Cond.fieldLink own index "KioskReel$Kiosk" "lastSlide" "I").before args s = true) {i : Int} (h : 0 ≤ i ∧ i < 6) (hS : va_S A H0 H locs) {v : Int} (hdg : decode cc pc = .ok (.putfield index, 3)) (kk : ∀ (H1 : Heap) (locs1 : List Loc), WP Dg ccnt ad (cE cA ad (ups σ 15 i 0 v)) H1 → va_S A H0 H1 locs1 → W p l e R s m args below meth c H1 locs1 cells slots Q (F0 m (pc + 3) ls rest)) : W p l e R s m args below meth c H locs cells slots Q (F0 m pc ls (.int (zi v) :: .ref (ad 9 i) :: rest)) :=
  r_put (N := 5) (ci := 3) (T := TX1) (C := RX1) (ty := .int) hC hW hS hin tyX1 tyX1_ok nmX1 rfl 4 (by decide) hl (fun _ h => h) rfl (by decide +kernel) rfl rfl h.1 h.2 rfl (Nat.le_of_ble_eq_true rfl) rfl hdg (fun H1 locs1 hW1 hS1 => kk H1 locs1 (cE_ups 15 i 0 v rfl (Or.inl (by simp only [cE, ups]; simp)) hW1) hS1)
theorem cg_Player_pile (hC : CX p c cc s m args own Ts Dg cA ccnt ad A) (hW : WP Dg ccnt ad (cE cA ad σ) H) (hin : ∀ w ∈ wsX30, w ∈ Ts) (hl : (Cond.fieldLink own index "KioskReel$Player" "pile" "[LKioskReel$Reel;").before args s = true) {i : Int} (h : 0 ≤ i ∧ i < 6) (hdg : decode cc pc = .ok (.getfield index, 3)) (kk : W p l e R s m args below meth c H locs cells slots Q (F0 m (pc + 3) ls (.ref (ad 11 i) :: rest))) : W p l e R s m args below meth c H locs cells slots Q (F0 m pc ls (.ref (ad 10 i) :: rest)) :=
  r_get (N := 9) (ci := 4) (T := TX3) (C := RX3) hC hW hin rfl 0 (by decide) hl (fun _ h => h) h.1 h.2 rfl rfl hdg kk
theorem cg_Player_ahead (hC : CX p c cc s m args own Ts Dg cA ccnt ad A) (hW : WP Dg ccnt ad (cE cA ad σ) H) (hin : ∀ w ∈ wsX30, w ∈ Ts) (hl : (Cond.fieldLink own index "KioskReel$Player" "ahead" "[I").before args s = true) {i : Int} (h : 0 ≤ i ∧ i < 6) (hdg : decode cc pc = .ok (.getfield index, 3)) (kk : W p l e R s m args below meth c H locs cells slots Q (F0 m (pc + 3) ls (.ref (ad 12 i) :: rest))) : W p l e R s m args below meth c H locs cells slots Q (F0 m pc ls (.ref (ad 10 i) :: rest)) :=
  r_get (N := 9) (ci := 4) (T := TX3) (C := RX3) hC hW hin rfl 1 (by decide) hl (fun _ h => h) h.1 h.2 rfl rfl hdg kk
theorem cg_Player_height (hC : CX p c cc s m args own Ts Dg cA ccnt ad A) (hW : WP Dg ccnt ad (cE cA ad σ) H) (hin : ∀ w ∈ wsX30, w ∈ Ts) (hl : (Cond.fieldLink own index "KioskReel$Player" "height" "I").before args s = true) {i : Int} (h : 0 ≤ i ∧ i < 6) {v : Int} (hv : σ 5 i 0 = v) (hdg : decode cc pc = .ok (.getfield index, 3)) (kk : W p l e R s m args below meth c H locs cells slots Q (F0 m (pc + 3) ls (.int (zi v) :: rest))) : W p l e R s m args below meth c H locs cells slots Q (F0 m pc ls (.ref (ad 10 i) :: rest)) :=
  r_get (N := 9) (ci := 4) (T := TX3) (C := RX3) hC hW hin rfl 2 (by decide) hl (fun _ h => h) h.1 h.2 rfl rfl hdg (by rw [hv]; exact kk)
theorem cp_Player_height (hC : CX p c cc s m args own Ts Dg cA ccnt ad A) (hW : WP Dg ccnt ad (cE cA ad σ) H) (hin : ∀ w ∈ wsX30, w ∈ Ts) (hl : (Cond.fieldLink own index "KioskReel$Player" "height" "I").before args s = true) {i : Int} (h : 0 ≤ i ∧ i < 6) (hS : va_S A H0 H locs) {v : Int} (hdg : decode cc pc = .ok (.putfield index, 3)) (kk : ∀ (H1 : Heap) (locs1 : List Loc), WP Dg ccnt ad (cE cA ad (ups σ 5 i 0 v)) H1 → va_S A H0 H1 locs1 → W p l e R s m args below meth c H1 locs1 cells slots Q (F0 m (pc + 3) ls rest)) : W p l e R s m args below meth c H locs cells slots Q (F0 m pc ls (.int (zi v) :: .ref (ad 10 i) :: rest)) :=
  r_put (N := 9) (ci := 4) (T := TX3) (C := RX3) (ty := .int) hC hW hS hin tyX3 tyX3_ok nmX3 rfl 2 (by decide) hl (fun _ h => h) rfl (by decide +kernel) rfl rfl h.1 h.2 rfl (Nat.le_of_ble_eq_true rfl) rfl hdg (fun H1 locs1 hW1 hS1 => kk H1 locs1 (cE_ups 5 i 0 v rfl (Or.inl (by simp only [cE, ups]; simp)) hW1) hS1)
theorem cg_Player_started (hC : CX p c cc s m args own Ts Dg cA ccnt ad A) (hW : WP Dg ccnt ad (cE cA ad σ) H) (hin : ∀ w ∈ wsX30, w ∈ Ts) (hl : (Cond.fieldLink own index "KioskReel$Player" "started" "Z").before args s = true) {i : Int} (h : 0 ≤ i ∧ i < 6) {v : Int} (hv : σ 6 i 0 = v) (hdg : decode cc pc = .ok (.getfield index, 3)) (kk : W p l e R s m args below meth c H locs cells slots Q (F0 m (pc + 3) ls (.int (zi v) :: rest))) : W p l e R s m args below meth c H locs cells slots Q (F0 m pc ls (.ref (ad 10 i) :: rest)) :=
  r_get (N := 9) (ci := 4) (T := TX3) (C := RX3) hC hW hin rfl 3 (by decide) hl (fun _ h => h) h.1 h.2 rfl rfl hdg (by rw [hv]; exact kk)
theorem cp_Player_started (hC : CX p c cc s m args own Ts Dg cA ccnt ad A) (hW : WP Dg ccnt ad (cE cA ad σ) H) (hin : ∀ w ∈ wsX30, w ∈ Ts) (hl : (Cond.fieldLink own index "KioskReel$Player" "started" "Z").before args s = true) {i : Int} (h : 0 ≤ i ∧ i < 6) (hS : va_S A H0 H locs) {v : Int} (hv : v = 0 ∨ v = 1) (hdg : decode cc pc = .ok (.putfield index, 3)) (kk : ∀ (H1 : Heap) (locs1 : List Loc), WP Dg ccnt ad (cE cA ad (ups σ 6 i 0 v)) H1 → va_S A H0 H1 locs1 → W p l e R s m args below meth c H1 locs1 cells slots Q (F0 m (pc + 3) ls rest)) : W p l e R s m args below meth c H locs cells slots Q (F0 m pc ls (.int (zi v) :: .ref (ad 10 i) :: rest)) :=
  r_put (N := 9) (ci := 4) (T := TX3) (C := RX3) (ty := .boolean) hC hW hS hin tyX3 tyX3_ok nmX3 rfl 3 (by decide) hl (fun _ h => h) rfl (by decide +kernel) (by rcases hv with rfl | rfl <;> decide) (by rcases hv with rfl | rfl <;> decide) h.1 h.2 rfl (Nat.le_of_ble_eq_true rfl) rfl hdg (fun H1 locs1 hW1 hS1 => kk H1 locs1 (cE_ups 6 i 0 v rfl (Or.inl (by simp only [cE, ups]; simp)) hW1) hS1)
theorem cg_Player_firstList (hC : CX p c cc s m args own Ts Dg cA ccnt ad A) (hW : WP Dg ccnt ad (cE cA ad σ) H) (hin : ∀ w ∈ wsX30, w ∈ Ts) (hl : (Cond.fieldLink own index "KioskReel$Player" "firstList" "I").before args s = true) {i : Int} (h : 0 ≤ i ∧ i < 6) {v : Int} (hv : σ 7 i 0 = v) (hdg : decode cc pc = .ok (.getfield index, 3)) (kk : W p l e R s m args below meth c H locs cells slots Q (F0 m (pc + 3) ls (.int (zi v) :: rest))) : W p l e R s m args below meth c H locs cells slots Q (F0 m pc ls (.ref (ad 10 i) :: rest)) :=
  r_get (N := 9) (ci := 4) (T := TX3) (C := RX3) hC hW hin rfl 4 (by decide) hl (fun _ h => h) h.1 h.2 rfl rfl hdg (by rw [hv]; exact kk)
theorem cp_Player_firstList (hC : CX p c cc s m args own Ts Dg cA ccnt ad A) (hW : WP Dg ccnt ad (cE cA ad σ) H) (hin : ∀ w ∈ wsX30, w ∈ Ts) (hl : (Cond.fieldLink own index "KioskReel$Player" "firstList" "I").before args s = true) {i : Int} (h : 0 ≤ i ∧ i < 6) (hS : va_S A H0 H locs) {v : Int} (hdg : decode cc pc = .ok (.putfield index, 3)) (kk : ∀ (H1 : Heap) (locs1 : List Loc), WP Dg ccnt ad (cE cA ad (ups σ 7 i 0 v)) H1 → va_S A H0 H1 locs1 → W p l e R s m args below meth c H1 locs1 cells slots Q (F0 m (pc + 3) ls rest)) : W p l e R s m args below meth c H locs cells slots Q (F0 m pc ls (.int (zi v) :: .ref (ad 10 i) :: rest)) :=
  r_put (N := 9) (ci := 4) (T := TX3) (C := RX3) (ty := .int) hC hW hS hin tyX3 tyX3_ok nmX3 rfl 4 (by decide) hl (fun _ h => h) rfl (by decide +kernel) rfl rfl h.1 h.2 rfl (Nat.le_of_ble_eq_true rfl) rfl hdg (fun H1 locs1 hW1 hS1 => kk H1 locs1 (cE_ups 7 i 0 v rfl (Or.inl (by simp only [cE, ups]; simp)) hW1) hS1)
theorem cg_Player_place (hC : CX p c cc s m args own Ts Dg cA ccnt ad A) (hW : WP Dg ccnt ad (cE cA ad σ) H) (hin : ∀ w ∈ wsX30, w ∈ Ts) (hl : (Cond.fieldLink own index "KioskReel$Player" "place" "I").before args s = true) {i : Int} (h : 0 ≤ i ∧ i < 6) {v : Int} (hv : σ 8 i 0 = v) (hdg : decode cc pc = .ok (.getfield index, 3)) (kk : W p l e R s m args below meth c H locs cells slots Q (F0 m (pc + 3) ls (.int (zi v) :: rest))) : W p l e R s m args below meth c H locs cells slots Q (F0 m pc ls (.ref (ad 10 i) :: rest)) :=
  r_get (N := 9) (ci := 4) (T := TX3) (C := RX3) hC hW hin rfl 5 (by decide) hl (fun _ h => h) h.1 h.2 rfl rfl hdg (by rw [hv]; exact kk)
theorem cp_Player_place (hC : CX p c cc s m args own Ts Dg cA ccnt ad A) (hW : WP Dg ccnt ad (cE cA ad σ) H) (hin : ∀ w ∈ wsX30, w ∈ Ts) (hl : (Cond.fieldLink own index "KioskReel$Player" "place" "I").before args s = true) {i : Int} (h : 0 ≤ i ∧ i < 6) (hS : va_S A H0 H locs) {v : Int} (hdg : decode cc pc = .ok (.putfield index, 3)) (kk : ∀ (H1 : Heap) (locs1 : List Loc), WP Dg ccnt ad (cE cA ad (ups σ 8 i 0 v)) H1 → va_S A H0 H1 locs1 → W p l e R s m args below meth c H1 locs1 cells slots Q (F0 m (pc + 3) ls rest)) : W p l e R s m args below meth c H locs cells slots Q (F0 m pc ls (.int (zi v) :: .ref (ad 10 i) :: rest)) :=
  r_put (N := 9) (ci := 4) (T := TX3) (C := RX3) (ty := .int) hC hW hS hin tyX3 tyX3_ok nmX3 rfl 5 (by decide) hl (fun _ h => h) rfl (by decide +kernel) rfl rfl h.1 h.2 rfl (Nat.le_of_ble_eq_true rfl) rfl hdg (fun H1 locs1 hW1 hS1 => kk H1 locs1 (cE_ups 8 i 0 v rfl (Or.inl (by simp only [cE, ups]; simp)) hW1) hS1)
theorem cg_Player_counter (hC : CX p c cc s m args own Ts Dg cA ccnt ad A) (hW : WP Dg ccnt ad (cE cA ad σ) H) (hin : ∀ w ∈ wsX30, w ∈ Ts) (hl : (Cond.fieldLink own index "KioskReel$Player" "counter" "I").before args s = true) {i : Int} (h : 0 ≤ i ∧ i < 6) {v : Int} (hv : σ 9 i 0 = v) (hdg : decode cc pc = .ok (.getfield index, 3)) (kk : W p l e R s m args below meth c H locs cells slots Q (F0 m (pc + 3) ls (.int (zi v) :: rest))) : W p l e R s m args below meth c H locs cells slots Q (F0 m pc ls (.ref (ad 10 i) :: rest)) :=
  r_get (N := 9) (ci := 4) (T := TX3) (C := RX3) hC hW hin rfl 6 (by decide) hl (fun _ h => h) h.1 h.2 rfl rfl hdg (by rw [hv]; exact kk)
theorem cp_Player_counter (hC : CX p c cc s m args own Ts Dg cA ccnt ad A) (hW : WP Dg ccnt ad (cE cA ad σ) H) (hin : ∀ w ∈ wsX30, w ∈ Ts) (hl : (Cond.fieldLink own index "KioskReel$Player" "counter" "I").before args s = true) {i : Int} (h : 0 ≤ i ∧ i < 6) (hS : va_S A H0 H locs) {v : Int} (hdg : decode cc pc = .ok (.putfield index, 3)) (kk : ∀ (H1 : Heap) (locs1 : List Loc), WP Dg ccnt ad (cE cA ad (ups σ 9 i 0 v)) H1 → va_S A H0 H1 locs1 → W p l e R s m args below meth c H1 locs1 cells slots Q (F0 m (pc + 3) ls rest)) : W p l e R s m args below meth c H locs cells slots Q (F0 m pc ls (.int (zi v) :: .ref (ad 10 i) :: rest)) :=
  r_put (N := 9) (ci := 4) (T := TX3) (C := RX3) (ty := .int) hC hW hS hin tyX3 tyX3_ok nmX3 rfl 6 (by decide) hl (fun _ h => h) rfl (by decide +kernel) rfl rfl h.1 h.2 rfl (Nat.le_of_ble_eq_true rfl) rfl hdg (fun H1 locs1 hW1 hS1 => kk H1 locs1 (cE_ups 9 i 0 v rfl (Or.inl (by simp only [cE, ups]; simp)) hW1) hS1)
theorem cg_Player_ticksToWait (hC : CX p c cc s m args own Ts Dg cA ccnt ad A) (hW : WP Dg ccnt ad (cE cA ad σ) H) (hin : ∀ w ∈ wsX30, w ∈ Ts) (hl : (Cond.fieldLink own index "KioskReel$Player" "ticksToWait" "I").before args s = true) {i : Int} (h : 0 ≤ i ∧ i < 6) {v : Int} (hv : σ 10 i 0 = v) (hdg : decode cc pc = .ok (.getfield index, 3)) (kk : W p l e R s m args below meth c H locs cells slots Q (F0 m (pc + 3) ls (.int (zi v) :: rest))) : W p l e R s m args below meth c H locs cells slots Q (F0 m pc ls (.ref (ad 10 i) :: rest)) :=
  r_get (N := 9) (ci := 4) (T := TX3) (C := RX3) hC hW hin rfl 7 (by decide) hl (fun _ h => h) h.1 h.2 rfl rfl hdg (by rw [hv]; exact kk)
theorem cp_Player_ticksToWait (hC : CX p c cc s m args own Ts Dg cA ccnt ad A) (hW : WP Dg ccnt ad (cE cA ad σ) H) (hin : ∀ w ∈ wsX30, w ∈ Ts) (hl : (Cond.fieldLink own index "KioskReel$Player" "ticksToWait" "I").before args s = true) {i : Int} (h : 0 ≤ i ∧ i < 6) (hS : va_S A H0 H locs) {v : Int} (hdg : decode cc pc = .ok (.putfield index, 3)) (kk : ∀ (H1 : Heap) (locs1 : List Loc), WP Dg ccnt ad (cE cA ad (ups σ 10 i 0 v)) H1 → va_S A H0 H1 locs1 → W p l e R s m args below meth c H1 locs1 cells slots Q (F0 m (pc + 3) ls rest)) : W p l e R s m args below meth c H locs cells slots Q (F0 m pc ls (.int (zi v) :: .ref (ad 10 i) :: rest)) :=
  r_put (N := 9) (ci := 4) (T := TX3) (C := RX3) (ty := .int) hC hW hS hin tyX3 tyX3_ok nmX3 rfl 7 (by decide) hl (fun _ h => h) rfl (by decide +kernel) rfl rfl h.1 h.2 rfl (Nat.le_of_ble_eq_true rfl) rfl hdg (fun H1 locs1 hW1 hS1 => kk H1 locs1 (cE_ups 10 i 0 v rfl (Or.inl (by simp only [cE, ups]; simp)) hW1) hS1)
theorem cg_Player_awaitedDevice (hC : CX p c cc s m args own Ts Dg cA ccnt ad A) (hW : WP Dg ccnt ad (cE cA ad σ) H) (hin : ∀ w ∈ wsX30, w ∈ Ts) (hl : (Cond.fieldLink own index "KioskReel$Player" "awaitedDevice" "I").before args s = true) {i : Int} (h : 0 ≤ i ∧ i < 6) {v : Int} (hv : σ 11 i 0 = v) (hdg : decode cc pc = .ok (.getfield index, 3)) (kk : W p l e R s m args below meth c H locs cells slots Q (F0 m (pc + 3) ls (.int (zi v) :: rest))) : W p l e R s m args below meth c H locs cells slots Q (F0 m pc ls (.ref (ad 10 i) :: rest)) :=
  r_get (N := 9) (ci := 4) (T := TX3) (C := RX3) hC hW hin rfl 8 (by decide) hl (fun _ h => h) h.1 h.2 rfl rfl hdg (by rw [hv]; exact kk)
theorem cp_Player_awaitedDevice (hC : CX p c cc s m args own Ts Dg cA ccnt ad A) (hW : WP Dg ccnt ad (cE cA ad σ) H) (hin : ∀ w ∈ wsX30, w ∈ Ts) (hl : (Cond.fieldLink own index "KioskReel$Player" "awaitedDevice" "I").before args s = true) {i : Int} (h : 0 ≤ i ∧ i < 6) (hS : va_S A H0 H locs) {v : Int} (hdg : decode cc pc = .ok (.putfield index, 3)) (kk : ∀ (H1 : Heap) (locs1 : List Loc), WP Dg ccnt ad (cE cA ad (ups σ 11 i 0 v)) H1 → va_S A H0 H1 locs1 → W p l e R s m args below meth c H1 locs1 cells slots Q (F0 m (pc + 3) ls rest)) : W p l e R s m args below meth c H locs cells slots Q (F0 m pc ls (.int (zi v) :: .ref (ad 10 i) :: rest)) :=
  r_put (N := 9) (ci := 4) (T := TX3) (C := RX3) (ty := .int) hC hW hS hin tyX3 tyX3_ok nmX3 rfl 8 (by decide) hl (fun _ h => h) rfl (by decide +kernel) rfl rfl h.1 h.2 rfl (Nat.le_of_ble_eq_true rfl) rfl hdg (fun H1 locs1 hW1 hS1 => kk H1 locs1 (cE_ups 11 i 0 v rfl (Or.inl (by simp only [cE, ups]; simp)) hW1) hS1)
theorem cg_Device_queue (hC : CX p c cc s m args own Ts Dg cA ccnt ad A) (hW : WP Dg ccnt ad (cE cA ad σ) H) (hin : ∀ w ∈ wsX00, w ∈ Ts) (hl : (Cond.fieldLink own index "KioskReel$Device" "queue" "LKioskReel$PlayerRow;").before args s = true) {i : Int} (h : 0 ≤ i ∧ i < 6) (hdg : decode cc pc = .ok (.getfield index, 3)) (kk : W p l e R s m args below meth c H locs cells slots Q (F0 m (pc + 3) ls (.ref (ad 18 (6 + i)) :: rest))) : W p l e R s m args below meth c H locs cells slots Q (F0 m pc ls (.ref (ad 13 i) :: rest)) :=
  r_get (N := 2) (ci := 2) (T := TX0) (C := RX0) hC hW hin rfl 0 (by decide) hl (fun _ h => h) h.1 h.2 rfl rfl hdg kk
theorem cg_Device_owner (hC : CX p c cc s m args own Ts Dg cA ccnt ad A) (hW : WP Dg ccnt ad (cE cA ad σ) H) (hin : ∀ w ∈ wsX00, w ∈ Ts) (hl : (Cond.fieldLink own index "KioskReel$Device" "owner" "I").before args s = true) {i : Int} (h : 0 ≤ i ∧ i < 6) {v : Int} (hv : σ 18 i 0 = v) (hdg : decode cc pc = .ok (.getfield index, 3)) (kk : W p l e R s m args below meth c H locs cells slots Q (F0 m (pc + 3) ls (.int (zi v) :: rest))) : W p l e R s m args below meth c H locs cells slots Q (F0 m pc ls (.ref (ad 13 i) :: rest)) :=
  r_get (N := 2) (ci := 2) (T := TX0) (C := RX0) hC hW hin rfl 1 (by decide) hl (fun _ h => h) h.1 h.2 rfl rfl hdg (by rw [hv]; exact kk)
theorem cp_Device_owner (hC : CX p c cc s m args own Ts Dg cA ccnt ad A) (hW : WP Dg ccnt ad (cE cA ad σ) H) (hin : ∀ w ∈ wsX00, w ∈ Ts) (hl : (Cond.fieldLink own index "KioskReel$Device" "owner" "I").before args s = true) {i : Int} (h : 0 ≤ i ∧ i < 6) (hS : va_S A H0 H locs) {v : Int} (hdg : decode cc pc = .ok (.putfield index, 3)) (kk : ∀ (H1 : Heap) (locs1 : List Loc), WP Dg ccnt ad (cE cA ad (ups σ 18 i 0 v)) H1 → va_S A H0 H1 locs1 → W p l e R s m args below meth c H1 locs1 cells slots Q (F0 m (pc + 3) ls rest)) : W p l e R s m args below meth c H locs cells slots Q (F0 m pc ls (.int (zi v) :: .ref (ad 13 i) :: rest)) :=
  r_put (N := 2) (ci := 2) (T := TX0) (C := RX0) (ty := .int) hC hW hS hin tyX0 tyX0_ok nmX0 rfl 1 (by decide) hl (fun _ h => h) rfl (by decide +kernel) rfl rfl h.1 h.2 rfl (Nat.le_of_ble_eq_true rfl) rfl hdg (fun H1 locs1 hW1 hS1 => kk H1 locs1 (cE_ups 18 i 0 v rfl (Or.inl (by simp only [cE, ups]; simp)) hW1) hS1)
theorem cg_Visitor_timesSeen (hC : CX p c cc s m args own Ts Dg cA ccnt ad A) (hW : WP Dg ccnt ad (cE cA ad σ) H) (hin : ∀ w ∈ wsX60, w ∈ Ts) (hl : (Cond.fieldLink own index "KioskReel$Visitor" "timesSeen" "[I").before args s = true) {i : Int} (h : 0 ≤ i ∧ i < 10) (hdg : decode cc pc = .ok (.getfield index, 3)) (kk : W p l e R s m args below meth c H locs cells slots Q (F0 m (pc + 3) ls (.ref (ad 15 i) :: rest))) : W p l e R s m args below meth c H locs cells slots Q (F0 m pc ls (.ref (ad 14 i) :: rest)) :=
  r_get (N := 4) (ci := 7) (T := TX6) (C := RX6) hC hW hin rfl 0 (by decide) hl (fun _ h => h) h.1 h.2 rfl rfl hdg kk
theorem cg_Visitor_timesAsked (hC : CX p c cc s m args own Ts Dg cA ccnt ad A) (hW : WP Dg ccnt ad (cE cA ad σ) H) (hin : ∀ w ∈ wsX60, w ∈ Ts) (hl : (Cond.fieldLink own index "KioskReel$Visitor" "timesAsked" "[I").before args s = true) {i : Int} (h : 0 ≤ i ∧ i < 10) (hdg : decode cc pc = .ok (.getfield index, 3)) (kk : W p l e R s m args below meth c H locs cells slots Q (F0 m (pc + 3) ls (.ref (ad 16 i) :: rest))) : W p l e R s m args below meth c H locs cells slots Q (F0 m pc ls (.ref (ad 14 i) :: rest)) :=
  r_get (N := 4) (ci := 7) (T := TX6) (C := RX6) hC hW hin rfl 1 (by decide) hl (fun _ h => h) h.1 h.2 rfl rfl hdg kk
theorem cg_Visitor_wants (hC : CX p c cc s m args own Ts Dg cA ccnt ad A) (hW : WP Dg ccnt ad (cE cA ad σ) H) (hin : ∀ w ∈ wsX60, w ∈ Ts) (hl : (Cond.fieldLink own index "KioskReel$Visitor" "wants" "[Z").before args s = true) {i : Int} (h : 0 ≤ i ∧ i < 10) (hdg : decode cc pc = .ok (.getfield index, 3)) (kk : W p l e R s m args below meth c H locs cells slots Q (F0 m (pc + 3) ls (.ref (ad 17 i) :: rest))) : W p l e R s m args below meth c H locs cells slots Q (F0 m pc ls (.ref (ad 14 i) :: rest)) :=
  r_get (N := 4) (ci := 7) (T := TX6) (C := RX6) hC hW hin rfl 2 (by decide) hl (fun _ h => h) h.1 h.2 rfl rfl hdg kk
theorem cg_Visitor_place (hC : CX p c cc s m args own Ts Dg cA ccnt ad A) (hW : WP Dg ccnt ad (cE cA ad σ) H) (hin : ∀ w ∈ wsX60, w ∈ Ts) (hl : (Cond.fieldLink own index "KioskReel$Visitor" "place" "I").before args s = true) {i : Int} (h : 0 ≤ i ∧ i < 10) {v : Int} (hv : σ 22 i 0 = v) (hdg : decode cc pc = .ok (.getfield index, 3)) (kk : W p l e R s m args below meth c H locs cells slots Q (F0 m (pc + 3) ls (.int (zi v) :: rest))) : W p l e R s m args below meth c H locs cells slots Q (F0 m pc ls (.ref (ad 14 i) :: rest)) :=
  r_get (N := 4) (ci := 7) (T := TX6) (C := RX6) hC hW hin rfl 3 (by decide) hl (fun _ h => h) h.1 h.2 rfl rfl hdg (by rw [hv]; exact kk)
theorem cp_Visitor_place (hC : CX p c cc s m args own Ts Dg cA ccnt ad A) (hW : WP Dg ccnt ad (cE cA ad σ) H) (hin : ∀ w ∈ wsX60, w ∈ Ts) (hl : (Cond.fieldLink own index "KioskReel$Visitor" "place" "I").before args s = true) {i : Int} (h : 0 ≤ i ∧ i < 10) (hS : va_S A H0 H locs) {v : Int} (hdg : decode cc pc = .ok (.putfield index, 3)) (kk : ∀ (H1 : Heap) (locs1 : List Loc), WP Dg ccnt ad (cE cA ad (ups σ 22 i 0 v)) H1 → va_S A H0 H1 locs1 → W p l e R s m args below meth c H1 locs1 cells slots Q (F0 m (pc + 3) ls rest)) : W p l e R s m args below meth c H locs cells slots Q (F0 m pc ls (.int (zi v) :: .ref (ad 14 i) :: rest)) :=
  r_put (N := 4) (ci := 7) (T := TX6) (C := RX6) (ty := .int) hC hW hS hin tyX6 tyX6_ok nmX6 rfl 3 (by decide) hl (fun _ h => h) rfl (by decide +kernel) rfl rfl h.1 h.2 rfl (Nat.le_of_ble_eq_true rfl) rfl hdg (fun H1 locs1 hW1 hS1 => kk H1 locs1 (cE_ups 22 i 0 v rfl (Or.inl (by simp only [cE, ups]; simp)) hW1) hS1)
theorem cg_Row_members (hC : CX p c cc s m args own Ts Dg cA ccnt ad A) (hW : WP Dg ccnt ad (cE cA ad σ) H) (hin : ∀ w ∈ wsX40, w ∈ Ts) (hl : (Cond.fieldLink own index "KioskReel$PlayerRow" "members" "[I").before args s = true) {i : Int} (h : 0 ≤ i ∧ i < 12) (hdg : decode cc pc = .ok (.getfield index, 3)) (kk : W p l e R s m args below meth c H locs cells slots Q (F0 m (pc + 3) ls (.ref (ad 19 i) :: rest))) : W p l e R s m args below meth c H locs cells slots Q (F0 m pc ls (.ref (ad 18 i) :: rest)) :=
  r_get (N := 2) (ci := 5) (T := TX4) (C := RX4) hC hW hin rfl 0 (by decide) hl (fun _ h => h) h.1 h.2 rfl rfl hdg kk
theorem cg_Row_size (hC : CX p c cc s m args own Ts Dg cA ccnt ad A) (hW : WP Dg ccnt ad (cE cA ad σ) H) (hin : ∀ w ∈ wsX40, w ∈ Ts) (hl : (Cond.fieldLink own index "KioskReel$PlayerRow" "size" "I").before args s = true) {i : Int} (h : 0 ≤ i ∧ i < 12) {v : Int} (hv : σ 17 i 0 = v) (hdg : decode cc pc = .ok (.getfield index, 3)) (kk : W p l e R s m args below meth c H locs cells slots Q (F0 m (pc + 3) ls (.int (zi v) :: rest))) : W p l e R s m args below meth c H locs cells slots Q (F0 m pc ls (.ref (ad 18 i) :: rest)) :=
  r_get (N := 2) (ci := 5) (T := TX4) (C := RX4) hC hW hin rfl 1 (by decide) hl (fun _ h => h) h.1 h.2 rfl rfl hdg (by rw [hv]; exact kk)
theorem cp_Row_size (hC : CX p c cc s m args own Ts Dg cA ccnt ad A) (hW : WP Dg ccnt ad (cE cA ad σ) H) (hin : ∀ w ∈ wsX40, w ∈ Ts) (hl : (Cond.fieldLink own index "KioskReel$PlayerRow" "size" "I").before args s = true) {i : Int} (h : 0 ≤ i ∧ i < 12) (hS : va_S A H0 H locs) {v : Int} (hdg : decode cc pc = .ok (.putfield index, 3)) (kk : ∀ (H1 : Heap) (locs1 : List Loc), WP Dg ccnt ad (cE cA ad (ups σ 17 i 0 v)) H1 → va_S A H0 H1 locs1 → W p l e R s m args below meth c H1 locs1 cells slots Q (F0 m (pc + 3) ls rest)) : W p l e R s m args below meth c H locs cells slots Q (F0 m pc ls (.int (zi v) :: .ref (ad 18 i) :: rest)) :=
  r_put (N := 2) (ci := 5) (T := TX4) (C := RX4) (ty := .int) hC hW hS hin tyX4 tyX4_ok nmX4 rfl 1 (by decide) hl (fun _ h => h) rfl (by decide +kernel) rfl rfl h.1 h.2 rfl (Nat.le_of_ble_eq_true rfl) rfl hdg (fun H1 locs1 hW1 hS1 => kk H1 locs1 (cE_ups 17 i 0 v rfl (Or.inl (by simp only [cE, ups]; simp)) hW1) hS1)
theorem ca_reels (hC : CX p c cc s m args own Ts Dg cA ccnt ad A) (hW : WP Dg ccnt ad (cE cA ad σ) H) {x : Int} (hx : 0 ≤ x ∧ x < 8) (hdg : decode cc pc = .ok (.aaload, 1)) (kk : W p l e R s m args below meth c H locs cells slots Q (F0 m (pc + 1) ls (.ref (ad 6 x) :: rest))) : W p l e R s m args below meth c H locs cells slots Q (F0 m pc ls (.int (zi x) :: .ref (ad 1 0) :: rest)) :=
  r_aald (t := 1) (ty := 3) (n := 8) (g := fun j => ad 6 j) hC hW (by decide) (by decide) rfl rfl (by decide) hx hdg kk
theorem ca_kiosks (hC : CX p c cc s m args own Ts Dg cA ccnt ad A) (hW : WP Dg ccnt ad (cE cA ad σ) H) {x : Int} (hx : 0 ≤ x ∧ x < 6) (hdg : decode cc pc = .ok (.aaload, 1)) (kk : W p l e R s m args below meth c H locs cells slots Q (F0 m (pc + 1) ls (.ref (ad 9 x) :: rest))) : W p l e R s m args below meth c H locs cells slots Q (F0 m pc ls (.int (zi x) :: .ref (ad 2 0) :: rest)) :=
  r_aald (t := 2) (ty := 4) (n := 6) (g := fun j => ad 9 j) hC hW (by decide) (by decide) rfl rfl (by decide) hx hdg kk
theorem ca_players (hC : CX p c cc s m args own Ts Dg cA ccnt ad A) (hW : WP Dg ccnt ad (cE cA ad σ) H) {x : Int} (hx : 0 ≤ x ∧ x < 6) (hdg : decode cc pc = .ok (.aaload, 1)) (kk : W p l e R s m args below meth c H locs cells slots Q (F0 m (pc + 1) ls (.ref (ad 10 x) :: rest))) : W p l e R s m args below meth c H locs cells slots Q (F0 m pc ls (.int (zi x) :: .ref (ad 3 0) :: rest)) :=
  r_aald (t := 3) (ty := 5) (n := 6) (g := fun j => ad 10 j) hC hW (by decide) (by decide) rfl rfl (by decide) hx hdg kk
theorem ca_devices (hC : CX p c cc s m args own Ts Dg cA ccnt ad A) (hW : WP Dg ccnt ad (cE cA ad σ) H) {x : Int} (hx : 0 ≤ x ∧ x < 6) (hdg : decode cc pc = .ok (.aaload, 1)) (kk : W p l e R s m args below meth c H locs cells slots Q (F0 m (pc + 1) ls (.ref (ad 13 x) :: rest))) : W p l e R s m args below meth c H locs cells slots Q (F0 m pc ls (.int (zi x) :: .ref (ad 4 0) :: rest)) :=
  r_aald (t := 4) (ty := 6) (n := 6) (g := fun j => ad 13 j) hC hW (by decide) (by decide) rfl rfl (by decide) hx hdg kk
theorem ca_visitors (hC : CX p c cc s m args own Ts Dg cA ccnt ad A) (hW : WP Dg ccnt ad (cE cA ad σ) H) {x : Int} (hx : 0 ≤ x ∧ x < 10) (hdg : decode cc pc = .ok (.aaload, 1)) (kk : W p l e R s m args below meth c H locs cells slots Q (F0 m (pc + 1) ls (.ref (ad 14 x) :: rest))) : W p l e R s m args below meth c H locs cells slots Q (F0 m pc ls (.int (zi x) :: .ref (ad 5 0) :: rest)) :=
  r_aald (t := 5) (ty := 7) (n := 10) (g := fun j => ad 14 j) hC hW (by decide) (by decide) rfl rfl (by decide) hx hdg kk
theorem ca_kinds (hC : CX p c cc s m args own Ts Dg cA ccnt ad A) (hW : WP Dg ccnt ad (cE cA ad σ) H) {i : Int} (h : 0 ≤ i ∧ i < 32) {x : Int} (hx : 0 ≤ x ∧ x < 20) {v : Int} (hv : σ 1 i x = v) (hdg : decode cc pc = .ok (.caload, 1)) (kk : W p l e R s m args below meth c H locs cells slots Q (F0 m (pc + 1) ls (.int (zi v) :: rest))) : W p l e R s m args below meth c H locs cells slots Q (F0 m pc ls (.int (zi x) :: .ref (ad 7 i) :: rest)) :=
  r_cald (t := 7) (n := 20) (g := fun j => σ 1 i j) hC hW h.1 h.2 rfl (by decide) hx hdg (by simp only [hv]; exact kk)
theorem cs_kinds (hC : CX p c cc s m args own Ts Dg cA ccnt ad A) (hW : WP Dg ccnt ad (cE cA ad σ) H) {i : Int} (h : 0 ≤ i ∧ i < 32) {x : Int} (hx : 0 ≤ x ∧ x < 20) (hS : va_S A H0 H locs) {v : Int} (hy : 0 ≤ v ∧ v < 65536) (hdg : decode cc pc = .ok (.castore, 1)) (kk : ∀ (H1 : Heap) (locs1 : List Loc), WP Dg ccnt ad (cE cA ad (ups σ 1 i x v)) H1 → va_S A H0 H1 locs1 → W p l e R s m args below meth c H1 locs1 cells slots Q (F0 m (pc + 1) ls rest)) : W p l e R s m args below meth c H locs cells slots Q (F0 m pc ls (.int (zi v) :: .int (zi x) :: .ref (ad 7 i) :: rest)) :=
  r_cast (t := 7) (n := 20) (g := fun j => σ 1 i j) hC hW hS h.1 h.2 (fun j => ups σ 1 i x v 1 i j) rfl (by decide) hy hx (fun j _ _ => by simp [ups]) rfl hdg (fun H1 locs1 hW1 hS1 => kk H1 locs1 (cE_ups 1 i x v rfl veq.rf hW1) hS1)
theorem ca_numbers (hC : CX p c cc s m args own Ts Dg cA ccnt ad A) (hW : WP Dg ccnt ad (cE cA ad σ) H) {i : Int} (h : 0 ≤ i ∧ i < 32) {x : Int} (hx : 0 ≤ x ∧ x < 20) {v : Int} (hv : σ 2 i x = v) (hdg : decode cc pc = .ok (.iaload, 1)) (kk : W p l e R s m args below meth c H locs cells slots Q (F0 m (pc + 1) ls (.int (zi v) :: rest))) : W p l e R s m args below meth c H locs cells slots Q (F0 m pc ls (.int (zi x) :: .ref (ad 8 i) :: rest)) :=
  r_iald (t := 8) (n := 20) (g := fun j => σ 2 i j) hC hW h.1 h.2 rfl (by decide) hx hdg (by simp only [hv]; exact kk)
theorem cs_numbers (hC : CX p c cc s m args own Ts Dg cA ccnt ad A) (hW : WP Dg ccnt ad (cE cA ad σ) H) {i : Int} (h : 0 ≤ i ∧ i < 32) {x : Int} (hx : 0 ≤ x ∧ x < 20) (hS : va_S A H0 H locs) {v : Int} (hdg : decode cc pc = .ok (.iastore, 1)) (kk : ∀ (H1 : Heap) (locs1 : List Loc), WP Dg ccnt ad (cE cA ad (ups σ 2 i x v)) H1 → va_S A H0 H1 locs1 → W p l e R s m args below meth c H1 locs1 cells slots Q (F0 m (pc + 1) ls rest)) : W p l e R s m args below meth c H locs cells slots Q (F0 m pc ls (.int (zi v) :: .int (zi x) :: .ref (ad 8 i) :: rest)) :=
  r_iast (t := 8) (n := 20) (g := fun j => σ 2 i j) hC hW hS h.1 h.2 (fun j => ups σ 2 i x v 2 i j) rfl (by decide) hx (fun j _ _ => by simp [ups]) rfl hdg (fun H1 locs1 hW1 hS1 => kk H1 locs1 (cE_ups 2 i x v rfl veq.rf hW1) hS1)
theorem ca_pile (hC : CX p c cc s m args own Ts Dg cA ccnt ad A) (hW : WP Dg ccnt ad (cE cA ad σ) H) {i : Int} (h : 0 ≤ i ∧ i < 6) {x : Int} (hx : 0 ≤ x ∧ x < 4) (hdg : decode cc pc = .ok (.aaload, 1)) (kk : W p l e R s m args below meth c H locs cells slots Q (F0 m (pc + 1) ls (.ref (ad 6 (8 + 4 * i + x)) :: rest))) : W p l e R s m args below meth c H locs cells slots Q (F0 m pc ls (.int (zi x) :: .ref (ad 11 i) :: rest)) :=
  r_aald (t := 11) (ty := 3) (n := 4) (g := fun j => ad 6 (8 + 4 * i + j)) hC hW h.1 h.2 rfl rfl (by decide) hx hdg kk
theorem ca_ahead (hC : CX p c cc s m args own Ts Dg cA ccnt ad A) (hW : WP Dg ccnt ad (cE cA ad σ) H) {i : Int} (h : 0 ≤ i ∧ i < 6) {x : Int} (hx : 0 ≤ x ∧ x < 4) {v : Int} (hv : σ 4 i x = v) (hdg : decode cc pc = .ok (.iaload, 1)) (kk : W p l e R s m args below meth c H locs cells slots Q (F0 m (pc + 1) ls (.int (zi v) :: rest))) : W p l e R s m args below meth c H locs cells slots Q (F0 m pc ls (.int (zi x) :: .ref (ad 12 i) :: rest)) :=
  r_iald (t := 12) (n := 4) (g := fun j => σ 4 i j) hC hW h.1 h.2 rfl (by decide) hx hdg (by simp only [hv]; exact kk)
theorem cs_ahead (hC : CX p c cc s m args own Ts Dg cA ccnt ad A) (hW : WP Dg ccnt ad (cE cA ad σ) H) {i : Int} (h : 0 ≤ i ∧ i < 6) {x : Int} (hx : 0 ≤ x ∧ x < 4) (hS : va_S A H0 H locs) {v : Int} (hdg : decode cc pc = .ok (.iastore, 1)) (kk : ∀ (H1 : Heap) (locs1 : List Loc), WP Dg ccnt ad (cE cA ad (ups σ 4 i x v)) H1 → va_S A H0 H1 locs1 → W p l e R s m args below meth c H1 locs1 cells slots Q (F0 m (pc + 1) ls rest)) : W p l e R s m args below meth c H locs cells slots Q (F0 m pc ls (.int (zi v) :: .int (zi x) :: .ref (ad 12 i) :: rest)) :=
  r_iast (t := 12) (n := 4) (g := fun j => σ 4 i j) hC hW hS h.1 h.2 (fun j => ups σ 4 i x v 4 i j) rfl (by decide) hx (fun j _ _ => by simp [ups]) rfl hdg (fun H1 locs1 hW1 hS1 => kk H1 locs1 (cE_ups 4 i x v rfl veq.rf hW1) hS1)
theorem ca_seen (hC : CX p c cc s m args own Ts Dg cA ccnt ad A) (hW : WP Dg ccnt ad (cE cA ad σ) H) {i : Int} (h : 0 ≤ i ∧ i < 10) {x : Int} (hx : 0 ≤ x ∧ x < 100) {v : Int} (hv : σ 19 i x = v) (hdg : decode cc pc = .ok (.iaload, 1)) (kk : W p l e R s m args below meth c H locs cells slots Q (F0 m (pc + 1) ls (.int (zi v) :: rest))) : W p l e R s m args below meth c H locs cells slots Q (F0 m pc ls (.int (zi x) :: .ref (ad 15 i) :: rest)) :=
  r_iald (t := 15) (n := 100) (g := fun j => σ 19 i j) hC hW h.1 h.2 rfl (by decide) hx hdg (by simp only [hv]; exact kk)
theorem cs_seen (hC : CX p c cc s m args own Ts Dg cA ccnt ad A) (hW : WP Dg ccnt ad (cE cA ad σ) H) {i : Int} (h : 0 ≤ i ∧ i < 10) {x : Int} (hx : 0 ≤ x ∧ x < 100) (hS : va_S A H0 H locs) {v : Int} (hdg : decode cc pc = .ok (.iastore, 1)) (kk : ∀ (H1 : Heap) (locs1 : List Loc), WP Dg ccnt ad (cE cA ad (ups σ 19 i x v)) H1 → va_S A H0 H1 locs1 → W p l e R s m args below meth c H1 locs1 cells slots Q (F0 m (pc + 1) ls rest)) : W p l e R s m args below meth c H locs cells slots Q (F0 m pc ls (.int (zi v) :: .int (zi x) :: .ref (ad 15 i) :: rest)) :=
  r_iast (t := 15) (n := 100) (g := fun j => σ 19 i j) hC hW hS h.1 h.2 (fun j => ups σ 19 i x v 19 i j) rfl (by decide) hx (fun j _ _ => by simp [ups]) rfl hdg (fun H1 locs1 hW1 hS1 => kk H1 locs1 (cE_ups 19 i x v rfl veq.rf hW1) hS1)
theorem ca_asked (hC : CX p c cc s m args own Ts Dg cA ccnt ad A) (hW : WP Dg ccnt ad (cE cA ad σ) H) {i : Int} (h : 0 ≤ i ∧ i < 10) {x : Int} (hx : 0 ≤ x ∧ x < 100) {v : Int} (hv : σ 20 i x = v) (hdg : decode cc pc = .ok (.iaload, 1)) (kk : W p l e R s m args below meth c H locs cells slots Q (F0 m (pc + 1) ls (.int (zi v) :: rest))) : W p l e R s m args below meth c H locs cells slots Q (F0 m pc ls (.int (zi x) :: .ref (ad 16 i) :: rest)) :=
  r_iald (t := 16) (n := 100) (g := fun j => σ 20 i j) hC hW h.1 h.2 rfl (by decide) hx hdg (by simp only [hv]; exact kk)
theorem cs_asked (hC : CX p c cc s m args own Ts Dg cA ccnt ad A) (hW : WP Dg ccnt ad (cE cA ad σ) H) {i : Int} (h : 0 ≤ i ∧ i < 10) {x : Int} (hx : 0 ≤ x ∧ x < 100) (hS : va_S A H0 H locs) {v : Int} (hdg : decode cc pc = .ok (.iastore, 1)) (kk : ∀ (H1 : Heap) (locs1 : List Loc), WP Dg ccnt ad (cE cA ad (ups σ 20 i x v)) H1 → va_S A H0 H1 locs1 → W p l e R s m args below meth c H1 locs1 cells slots Q (F0 m (pc + 1) ls rest)) : W p l e R s m args below meth c H locs cells slots Q (F0 m pc ls (.int (zi v) :: .int (zi x) :: .ref (ad 16 i) :: rest)) :=
  r_iast (t := 16) (n := 100) (g := fun j => σ 20 i j) hC hW hS h.1 h.2 (fun j => ups σ 20 i x v 20 i j) rfl (by decide) hx (fun j _ _ => by simp [ups]) rfl hdg (fun H1 locs1 hW1 hS1 => kk H1 locs1 (cE_ups 20 i x v rfl veq.rf hW1) hS1)
theorem ca_wants (hC : CX p c cc s m args own Ts Dg cA ccnt ad A) (hW : WP Dg ccnt ad (cE cA ad σ) H) {i : Int} (h : 0 ≤ i ∧ i < 10) {x : Int} (hx : 0 ≤ x ∧ x < 100) {v : Int} (hv : σ 21 i x = v) (hdg : decode cc pc = .ok (.baload, 1)) (kk : W p l e R s m args below meth c H locs cells slots Q (F0 m (pc + 1) ls (.int (zi v) :: rest))) : W p l e R s m args below meth c H locs cells slots Q (F0 m pc ls (.int (zi x) :: .ref (ad 17 i) :: rest)) :=
  r_zald (t := 17) (n := 100) (g := fun j => σ 21 i j) hC hW h.1 h.2 rfl (by decide) hx hdg (by simp only [hv]; exact kk)
theorem cs_wants (hC : CX p c cc s m args own Ts Dg cA ccnt ad A) (hW : WP Dg ccnt ad (cE cA ad σ) H) {i : Int} (h : 0 ≤ i ∧ i < 10) {x : Int} (hx : 0 ≤ x ∧ x < 100) (hS : va_S A H0 H locs) {v : Int} (hy : v = 0 ∨ v = 1) (hdg : decode cc pc = .ok (.bastore, 1)) (kk : ∀ (H1 : Heap) (locs1 : List Loc), WP Dg ccnt ad (cE cA ad (ups σ 21 i x v)) H1 → va_S A H0 H1 locs1 → W p l e R s m args below meth c H1 locs1 cells slots Q (F0 m (pc + 1) ls rest)) : W p l e R s m args below meth c H locs cells slots Q (F0 m pc ls (.int (zi v) :: .int (zi x) :: .ref (ad 17 i) :: rest)) :=
  r_zast (t := 17) (n := 100) (g := fun j => σ 21 i j) hC hW hS h.1 h.2 (fun j => ups σ 21 i x v 21 i j) rfl (by decide) hy hx (fun j _ _ => by simp [ups]) rfl hdg (fun H1 locs1 hW1 hS1 => kk H1 locs1 (cE_ups 21 i x v rfl veq.rf hW1) hS1)
theorem ca_members (hC : CX p c cc s m args own Ts Dg cA ccnt ad A) (hW : WP Dg ccnt ad (cE cA ad σ) H) {i : Int} (h : 0 ≤ i ∧ i < 12) {x : Int} (hx : 0 ≤ x ∧ x < 6) {v : Int} (hv : σ 16 i x = v) (hdg : decode cc pc = .ok (.iaload, 1)) (kk : W p l e R s m args below meth c H locs cells slots Q (F0 m (pc + 1) ls (.int (zi v) :: rest))) : W p l e R s m args below meth c H locs cells slots Q (F0 m pc ls (.int (zi x) :: .ref (ad 19 i) :: rest)) :=
  r_iald (t := 19) (n := 6) (g := fun j => σ 16 i j) hC hW h.1 h.2 rfl (by decide) hx hdg (by simp only [hv]; exact kk)
theorem cs_members (hC : CX p c cc s m args own Ts Dg cA ccnt ad A) (hW : WP Dg ccnt ad (cE cA ad σ) H) {i : Int} (h : 0 ≤ i ∧ i < 12) {x : Int} (hx : 0 ≤ x ∧ x < 6) (hS : va_S A H0 H locs) {v : Int} (hdg : decode cc pc = .ok (.iastore, 1)) (kk : ∀ (H1 : Heap) (locs1 : List Loc), WP Dg ccnt ad (cE cA ad (ups σ 16 i x v)) H1 → va_S A H0 H1 locs1 → W p l e R s m args below meth c H1 locs1 cells slots Q (F0 m (pc + 1) ls rest)) : W p l e R s m args below meth c H locs cells slots Q (F0 m pc ls (.int (zi v) :: .int (zi x) :: .ref (ad 19 i) :: rest)) :=
  r_iast (t := 19) (n := 6) (g := fun j => σ 16 i j) hC hW hS h.1 h.2 (fun j => ups σ 16 i x v 16 i j) rfl (by decide) hx (fun j _ _ => by simp [ups]) rfl hdg (fun H1 locs1 hW1 hS1 => kk H1 locs1 (cE_ups 16 i x v rfl veq.rf hW1) hS1)
theorem mg_many (hC : CX p c cc s m args own Ts Dg cA mcnt ad A) (hW : WP Dg mcnt ad (mE cA ad σ) H) (hin : ∀ w ∈ wsX80, w ∈ Ts) (hl : (Cond.fieldLink own index "KioskReelModel" "many" "[I").before args s = true) (hdg : decode cc pc = .ok (.getfield index, 3)) (kk : W p l e R s m args below meth c H locs cells slots Q (F0 m (pc + 3) ls (.ref (ad 1 0) :: rest))) : W p l e R s m args below meth c H locs cells slots Q (F0 m pc ls (.ref (ad 0 0) :: rest)) :=
  r_get (N := 32) (ci := 9) (T := TX8) (C := RX8) hC hW hin rfl 0 (by decide) hl (fun _ h => h) (by decide) (by decide) rfl rfl hdg kk
theorem mg_kind (hC : CX p c cc s m args own Ts Dg cA mcnt ad A) (hW : WP Dg mcnt ad (mE cA ad σ) H) (hin : ∀ w ∈ wsX80, w ∈ Ts) (hl : (Cond.fieldLink own index "KioskReelModel" "kind" "[I").before args s = true) (hdg : decode cc pc = .ok (.getfield index, 3)) (kk : W p l e R s m args below meth c H locs cells slots Q (F0 m (pc + 3) ls (.ref (ad 2 0) :: rest))) : W p l e R s m args below meth c H locs cells slots Q (F0 m pc ls (.ref (ad 0 0) :: rest)) :=
  r_get (N := 32) (ci := 9) (T := TX8) (C := RX8) hC hW hin rfl 1 (by decide) hl (fun _ h => h) (by decide) (by decide) rfl rfl hdg kk
theorem mg_number (hC : CX p c cc s m args own Ts Dg cA mcnt ad A) (hW : WP Dg mcnt ad (mE cA ad σ) H) (hin : ∀ w ∈ wsX80, w ∈ Ts) (hl : (Cond.fieldLink own index "KioskReelModel" "number" "[I").before args s = true) (hdg : decode cc pc = .ok (.getfield index, 3)) (kk : W p l e R s m args below meth c H locs cells slots Q (F0 m (pc + 3) ls (.ref (ad 3 0) :: rest))) : W p l e R s m args below meth c H locs cells slots Q (F0 m pc ls (.ref (ad 0 0) :: rest)) :=
  r_get (N := 32) (ci := 9) (T := TX8) (C := RX8) hC hW hin rfl 2 (by decide) hl (fun _ h => h) (by decide) (by decide) rfl rfl hdg kk
theorem mg_pileMany (hC : CX p c cc s m args own Ts Dg cA mcnt ad A) (hW : WP Dg mcnt ad (mE cA ad σ) H) (hin : ∀ w ∈ wsX80, w ∈ Ts) (hl : (Cond.fieldLink own index "KioskReelModel" "pileMany" "[I").before args s = true) (hdg : decode cc pc = .ok (.getfield index, 3)) (kk : W p l e R s m args below meth c H locs cells slots Q (F0 m (pc + 3) ls (.ref (ad 4 0) :: rest))) : W p l e R s m args below meth c H locs cells slots Q (F0 m pc ls (.ref (ad 0 0) :: rest)) :=
  r_get (N := 32) (ci := 9) (T := TX8) (C := RX8) hC hW hin rfl 3 (by decide) hl (fun _ h => h) (by decide) (by decide) rfl rfl hdg kk
theorem mg_pileKind (hC : CX p c cc s m args own Ts Dg cA mcnt ad A) (hW : WP Dg mcnt ad (mE cA ad σ) H) (hin : ∀ w ∈ wsX80, w ∈ Ts) (hl : (Cond.fieldLink own index "KioskReelModel" "pileKind" "[I").before args s = true) (hdg : decode cc pc = .ok (.getfield index, 3)) (kk : W p l e R s m args below meth c H locs cells slots Q (F0 m (pc + 3) ls (.ref (ad 5 0) :: rest))) : W p l e R s m args below meth c H locs cells slots Q (F0 m pc ls (.ref (ad 0 0) :: rest)) :=
  r_get (N := 32) (ci := 9) (T := TX8) (C := RX8) hC hW hin rfl 4 (by decide) hl (fun _ h => h) (by decide) (by decide) rfl rfl hdg kk
theorem mg_pileNumber (hC : CX p c cc s m args own Ts Dg cA mcnt ad A) (hW : WP Dg mcnt ad (mE cA ad σ) H) (hin : ∀ w ∈ wsX80, w ∈ Ts) (hl : (Cond.fieldLink own index "KioskReelModel" "pileNumber" "[I").before args s = true) (hdg : decode cc pc = .ok (.getfield index, 3)) (kk : W p l e R s m args below meth c H locs cells slots Q (F0 m (pc + 3) ls (.ref (ad 6 0) :: rest))) : W p l e R s m args below meth c H locs cells slots Q (F0 m pc ls (.ref (ad 0 0) :: rest)) :=
  r_get (N := 32) (ci := 9) (T := TX8) (C := RX8) hC hW hin rfl 5 (by decide) hl (fun _ h => h) (by decide) (by decide) rfl rfl hdg kk
theorem mg_pileList (hC : CX p c cc s m args own Ts Dg cA mcnt ad A) (hW : WP Dg mcnt ad (mE cA ad σ) H) (hin : ∀ w ∈ wsX80, w ∈ Ts) (hl : (Cond.fieldLink own index "KioskReelModel" "pileList" "[I").before args s = true) (hdg : decode cc pc = .ok (.getfield index, 3)) (kk : W p l e R s m args below meth c H locs cells slots Q (F0 m (pc + 3) ls (.ref (ad 7 0) :: rest))) : W p l e R s m args below meth c H locs cells slots Q (F0 m pc ls (.ref (ad 0 0) :: rest)) :=
  r_get (N := 32) (ci := 9) (T := TX8) (C := RX8) hC hW hin rfl 6 (by decide) hl (fun _ h => h) (by decide) (by decide) rfl rfl hdg kk
theorem mg_pileNext (hC : CX p c cc s m args own Ts Dg cA mcnt ad A) (hW : WP Dg mcnt ad (mE cA ad σ) H) (hin : ∀ w ∈ wsX80, w ∈ Ts) (hl : (Cond.fieldLink own index "KioskReelModel" "pileNext" "[I").before args s = true) (hdg : decode cc pc = .ok (.getfield index, 3)) (kk : W p l e R s m args below meth c H locs cells slots Q (F0 m (pc + 3) ls (.ref (ad 8 0) :: rest))) : W p l e R s m args below meth c H locs cells slots Q (F0 m pc ls (.ref (ad 0 0) :: rest)) :=
  r_get (N := 32) (ci := 9) (T := TX8) (C := RX8) hC hW hin rfl 7 (by decide) hl (fun _ h => h) (by decide) (by decide) rfl rfl hdg kk
theorem mg_hasPlayer (hC : CX p c cc s m args own Ts Dg cA mcnt ad A) (hW : WP Dg mcnt ad (mE cA ad σ) H) (hin : ∀ w ∈ wsX80, w ∈ Ts) (hl : (Cond.fieldLink own index "KioskReelModel" "hasPlayer" "[Z").before args s = true) (hdg : decode cc pc = .ok (.getfield index, 3)) (kk : W p l e R s m args below meth c H locs cells slots Q (F0 m (pc + 3) ls (.ref (ad 9 0) :: rest))) : W p l e R s m args below meth c H locs cells slots Q (F0 m pc ls (.ref (ad 0 0) :: rest)) :=
  r_get (N := 32) (ci := 9) (T := TX8) (C := RX8) hC hW hin rfl 8 (by decide) hl (fun _ h => h) (by decide) (by decide) rfl rfl hdg kk
theorem mg_isFrozen (hC : CX p c cc s m args own Ts Dg cA mcnt ad A) (hW : WP Dg mcnt ad (mE cA ad σ) H) (hin : ∀ w ∈ wsX80, w ∈ Ts) (hl : (Cond.fieldLink own index "KioskReelModel" "isFrozen" "[Z").before args s = true) (hdg : decode cc pc = .ok (.getfield index, 3)) (kk : W p l e R s m args below meth c H locs cells slots Q (F0 m (pc + 3) ls (.ref (ad 10 0) :: rest))) : W p l e R s m args below meth c H locs cells slots Q (F0 m pc ls (.ref (ad 0 0) :: rest)) :=
  r_get (N := 32) (ci := 9) (T := TX8) (C := RX8) hC hW hin rfl 9 (by decide) hl (fun _ h => h) (by decide) (by decide) rfl rfl hdg kk
theorem mg_isOut (hC : CX p c cc s m args own Ts Dg cA mcnt ad A) (hW : WP Dg mcnt ad (mE cA ad σ) H) (hin : ∀ w ∈ wsX80, w ∈ Ts) (hl : (Cond.fieldLink own index "KioskReelModel" "isOut" "[Z").before args s = true) (hdg : decode cc pc = .ok (.getfield index, 3)) (kk : W p l e R s m args below meth c H locs cells slots Q (F0 m (pc + 3) ls (.ref (ad 11 0) :: rest))) : W p l e R s m args below meth c H locs cells slots Q (F0 m pc ls (.ref (ad 0 0) :: rest)) :=
  r_get (N := 32) (ci := 9) (T := TX8) (C := RX8) hC hW hin rfl 10 (by decide) hl (fun _ h => h) (by decide) (by decide) rfl rfl hdg kk
theorem mg_depth (hC : CX p c cc s m args own Ts Dg cA mcnt ad A) (hW : WP Dg mcnt ad (mE cA ad σ) H) (hin : ∀ w ∈ wsX80, w ∈ Ts) (hl : (Cond.fieldLink own index "KioskReelModel" "depth" "[I").before args s = true) (hdg : decode cc pc = .ok (.getfield index, 3)) (kk : W p l e R s m args below meth c H locs cells slots Q (F0 m (pc + 3) ls (.ref (ad 12 0) :: rest))) : W p l e R s m args below meth c H locs cells slots Q (F0 m pc ls (.ref (ad 0 0) :: rest)) :=
  r_get (N := 32) (ci := 9) (T := TX8) (C := RX8) hC hW hin rfl 11 (by decide) hl (fun _ h => h) (by decide) (by decide) rfl rfl hdg kk
theorem mg_at (hC : CX p c cc s m args own Ts Dg cA mcnt ad A) (hW : WP Dg mcnt ad (mE cA ad σ) H) (hin : ∀ w ∈ wsX80, w ∈ Ts) (hl : (Cond.fieldLink own index "KioskReelModel" "at" "[I").before args s = true) (hdg : decode cc pc = .ok (.getfield index, 3)) (kk : W p l e R s m args below meth c H locs cells slots Q (F0 m (pc + 3) ls (.ref (ad 13 0) :: rest))) : W p l e R s m args below meth c H locs cells slots Q (F0 m pc ls (.ref (ad 0 0) :: rest)) :=
  r_get (N := 32) (ci := 9) (T := TX8) (C := RX8) hC hW hin rfl 12 (by decide) hl (fun _ h => h) (by decide) (by decide) rfl rfl hdg kk
theorem mg_counts (hC : CX p c cc s m args own Ts Dg cA mcnt ad A) (hW : WP Dg mcnt ad (mE cA ad σ) H) (hin : ∀ w ∈ wsX80, w ∈ Ts) (hl : (Cond.fieldLink own index "KioskReelModel" "counts" "[I").before args s = true) (hdg : decode cc pc = .ok (.getfield index, 3)) (kk : W p l e R s m args below meth c H locs cells slots Q (F0 m (pc + 3) ls (.ref (ad 14 0) :: rest))) : W p l e R s m args below meth c H locs cells slots Q (F0 m pc ls (.ref (ad 0 0) :: rest)) :=
  r_get (N := 32) (ci := 9) (T := TX8) (C := RX8) hC hW hin rfl 13 (by decide) hl (fun _ h => h) (by decide) (by decide) rfl rfl hdg kk
theorem mg_ticks (hC : CX p c cc s m args own Ts Dg cA mcnt ad A) (hW : WP Dg mcnt ad (mE cA ad σ) H) (hin : ∀ w ∈ wsX80, w ∈ Ts) (hl : (Cond.fieldLink own index "KioskReelModel" "ticks" "[I").before args s = true) (hdg : decode cc pc = .ok (.getfield index, 3)) (kk : W p l e R s m args below meth c H locs cells slots Q (F0 m (pc + 3) ls (.ref (ad 15 0) :: rest))) : W p l e R s m args below meth c H locs cells slots Q (F0 m pc ls (.ref (ad 0 0) :: rest)) :=
  r_get (N := 32) (ci := 9) (T := TX8) (C := RX8) hC hW hin rfl 14 (by decide) hl (fun _ h => h) (by decide) (by decide) rfl rfl hdg kk
theorem mg_wanted (hC : CX p c cc s m args own Ts Dg cA mcnt ad A) (hW : WP Dg mcnt ad (mE cA ad σ) H) (hin : ∀ w ∈ wsX80, w ∈ Ts) (hl : (Cond.fieldLink own index "KioskReelModel" "wanted" "[I").before args s = true) (hdg : decode cc pc = .ok (.getfield index, 3)) (kk : W p l e R s m args below meth c H locs cells slots Q (F0 m (pc + 3) ls (.ref (ad 16 0) :: rest))) : W p l e R s m args below meth c H locs cells slots Q (F0 m pc ls (.ref (ad 0 0) :: rest)) :=
  r_get (N := 32) (ci := 9) (T := TX8) (C := RX8) hC hW hin rfl 15 (by decide) hl (fun _ h => h) (by decide) (by decide) rfl rfl hdg kk
theorem mg_frozenFor (hC : CX p c cc s m args own Ts Dg cA mcnt ad A) (hW : WP Dg mcnt ad (mE cA ad σ) H) (hin : ∀ w ∈ wsX80, w ∈ Ts) (hl : (Cond.fieldLink own index "KioskReelModel" "frozenFor" "[I").before args s = true) (hdg : decode cc pc = .ok (.getfield index, 3)) (kk : W p l e R s m args below meth c H locs cells slots Q (F0 m (pc + 3) ls (.ref (ad 17 0) :: rest))) : W p l e R s m args below meth c H locs cells slots Q (F0 m pc ls (.ref (ad 0 0) :: rest)) :=
  r_get (N := 32) (ci := 9) (T := TX8) (C := RX8) hC hW hin rfl 16 (by decide) hl (fun _ h => h) (by decide) (by decide) rfl rfl hdg kk
theorem mg_slide (hC : CX p c cc s m args own Ts Dg cA mcnt ad A) (hW : WP Dg mcnt ad (mE cA ad σ) H) (hin : ∀ w ∈ wsX80, w ∈ Ts) (hl : (Cond.fieldLink own index "KioskReelModel" "slide" "[I").before args s = true) (hdg : decode cc pc = .ok (.getfield index, 3)) (kk : W p l e R s m args below meth c H locs cells slots Q (F0 m (pc + 3) ls (.ref (ad 18 0) :: rest))) : W p l e R s m args below meth c H locs cells slots Q (F0 m pc ls (.ref (ad 0 0) :: rest)) :=
  r_get (N := 32) (ci := 9) (T := TX8) (C := RX8) hC hW hin rfl 17 (by decide) hl (fun _ h => h) (by decide) (by decide) rfl rfl hdg kk
theorem mg_playing (hC : CX p c cc s m args own Ts Dg cA mcnt ad A) (hW : WP Dg mcnt ad (mE cA ad σ) H) (hin : ∀ w ∈ wsX80, w ∈ Ts) (hl : (Cond.fieldLink own index "KioskReelModel" "playing" "[I").before args s = true) (hdg : decode cc pc = .ok (.getfield index, 3)) (kk : W p l e R s m args below meth c H locs cells slots Q (F0 m (pc + 3) ls (.ref (ad 19 0) :: rest))) : W p l e R s m args below meth c H locs cells slots Q (F0 m pc ls (.ref (ad 0 0) :: rest)) :=
  r_get (N := 32) (ci := 9) (T := TX8) (C := RX8) hC hW hin rfl 18 (by decide) hl (fun _ h => h) (by decide) (by decide) rfl rfl hdg kk
theorem mg_playingMany (hC : CX p c cc s m args own Ts Dg cA mcnt ad A) (hW : WP Dg mcnt ad (mE cA ad σ) H) (hin : ∀ w ∈ wsX80, w ∈ Ts) (hl : (Cond.fieldLink own index "KioskReelModel" "playingMany" "[I").before args s = true) (hdg : decode cc pc = .ok (.getfield index, 3)) (kk : W p l e R s m args below meth c H locs cells slots Q (F0 m (pc + 3) ls (.ref (ad 20 0) :: rest))) : W p l e R s m args below meth c H locs cells slots Q (F0 m pc ls (.ref (ad 0 0) :: rest)) :=
  r_get (N := 32) (ci := 9) (T := TX8) (C := RX8) hC hW hin rfl 19 (by decide) hl (fun _ h => h) (by decide) (by decide) rfl rfl hdg kk
theorem mg_holder (hC : CX p c cc s m args own Ts Dg cA mcnt ad A) (hW : WP Dg mcnt ad (mE cA ad σ) H) (hin : ∀ w ∈ wsX80, w ∈ Ts) (hl : (Cond.fieldLink own index "KioskReelModel" "holder" "[I").before args s = true) (hdg : decode cc pc = .ok (.getfield index, 3)) (kk : W p l e R s m args below meth c H locs cells slots Q (F0 m (pc + 3) ls (.ref (ad 21 0) :: rest))) : W p l e R s m args below meth c H locs cells slots Q (F0 m pc ls (.ref (ad 0 0) :: rest)) :=
  r_get (N := 32) (ci := 9) (T := TX8) (C := RX8) hC hW hin rfl 20 (by decide) hl (fun _ h => h) (by decide) (by decide) rfl rfl hdg kk
theorem mg_queue (hC : CX p c cc s m args own Ts Dg cA mcnt ad A) (hW : WP Dg mcnt ad (mE cA ad σ) H) (hin : ∀ w ∈ wsX80, w ∈ Ts) (hl : (Cond.fieldLink own index "KioskReelModel" "queue" "[I").before args s = true) (hdg : decode cc pc = .ok (.getfield index, 3)) (kk : W p l e R s m args below meth c H locs cells slots Q (F0 m (pc + 3) ls (.ref (ad 22 0) :: rest))) : W p l e R s m args below meth c H locs cells slots Q (F0 m pc ls (.ref (ad 0 0) :: rest)) :=
  r_get (N := 32) (ci := 9) (T := TX8) (C := RX8) hC hW hin rfl 21 (by decide) hl (fun _ h => h) (by decide) (by decide) rfl rfl hdg kk
theorem mg_queueMany (hC : CX p c cc s m args own Ts Dg cA mcnt ad A) (hW : WP Dg mcnt ad (mE cA ad σ) H) (hin : ∀ w ∈ wsX80, w ∈ Ts) (hl : (Cond.fieldLink own index "KioskReelModel" "queueMany" "[I").before args s = true) (hdg : decode cc pc = .ok (.getfield index, 3)) (kk : W p l e R s m args below meth c H locs cells slots Q (F0 m (pc + 3) ls (.ref (ad 23 0) :: rest))) : W p l e R s m args below meth c H locs cells slots Q (F0 m pc ls (.ref (ad 0 0) :: rest)) :=
  r_get (N := 32) (ci := 9) (T := TX8) (C := RX8) hC hW hin rfl 22 (by decide) hl (fun _ h => h) (by decide) (by decide) rfl rfl hdg kk
theorem mg_saw (hC : CX p c cc s m args own Ts Dg cA mcnt ad A) (hW : WP Dg mcnt ad (mE cA ad σ) H) (hin : ∀ w ∈ wsX80, w ∈ Ts) (hl : (Cond.fieldLink own index "KioskReelModel" "saw" "[I").before args s = true) (hdg : decode cc pc = .ok (.getfield index, 3)) (kk : W p l e R s m args below meth c H locs cells slots Q (F0 m (pc + 3) ls (.ref (ad 24 0) :: rest))) : W p l e R s m args below meth c H locs cells slots Q (F0 m pc ls (.ref (ad 0 0) :: rest)) :=
  r_get (N := 32) (ci := 9) (T := TX8) (C := RX8) hC hW hin rfl 23 (by decide) hl (fun _ h => h) (by decide) (by decide) rfl rfl hdg kk
theorem mg_place (hC : CX p c cc s m args own Ts Dg cA mcnt ad A) (hW : WP Dg mcnt ad (mE cA ad σ) H) (hin : ∀ w ∈ wsX80, w ∈ Ts) (hl : (Cond.fieldLink own index "KioskReelModel" "place" "[I").before args s = true) (hdg : decode cc pc = .ok (.getfield index, 3)) (kk : W p l e R s m args below meth c H locs cells slots Q (F0 m (pc + 3) ls (.ref (ad 25 0) :: rest))) : W p l e R s m args below meth c H locs cells slots Q (F0 m pc ls (.ref (ad 0 0) :: rest)) :=
  r_get (N := 32) (ci := 9) (T := TX8) (C := RX8) hC hW hin rfl 24 (by decide) hl (fun _ h => h) (by decide) (by decide) rfl rfl hdg kk
theorem mg_asked (hC : CX p c cc s m args own Ts Dg cA mcnt ad A) (hW : WP Dg mcnt ad (mE cA ad σ) H) (hin : ∀ w ∈ wsX80, w ∈ Ts) (hl : (Cond.fieldLink own index "KioskReelModel" "asked" "[Z").before args s = true) (hdg : decode cc pc = .ok (.getfield index, 3)) (kk : W p l e R s m args below meth c H locs cells slots Q (F0 m (pc + 3) ls (.ref (ad 26 0) :: rest))) : W p l e R s m args below meth c H locs cells slots Q (F0 m pc ls (.ref (ad 0 0) :: rest)) :=
  r_get (N := 32) (ci := 9) (T := TX8) (C := RX8) hC hW hin rfl 25 (by decide) hl (fun _ h => h) (by decide) (by decide) rfl rfl hdg kk
theorem mg_lists_f (hC : CX p c cc s m args own Ts Dg cA mcnt ad A) (hW : WP Dg mcnt ad (mE cA ad σ) H) (hin : ∀ w ∈ wsX80, w ∈ Ts) (hl : (Cond.fieldLink own index "KioskReelModel" "lists" "I").before args s = true) {v : Int} (hv : σ 26 0 0 = v) (hdg : decode cc pc = .ok (.getfield index, 3)) (kk : W p l e R s m args below meth c H locs cells slots Q (F0 m (pc + 3) ls (.int (zi v) :: rest))) : W p l e R s m args below meth c H locs cells slots Q (F0 m pc ls (.ref (ad 0 0) :: rest)) :=
  r_get (N := 32) (ci := 9) (T := TX8) (C := RX8) hC hW hin rfl 26 (by decide) hl (fun _ h => h) (by decide) (by decide) rfl rfl hdg (by rw [hv]; exact kk)
theorem mp_lists_f (hC : CX p c cc s m args own Ts Dg cA mcnt ad A) (hW : WP Dg mcnt ad (mE cA ad σ) H) (hin : ∀ w ∈ wsX80, w ∈ Ts) (hl : (Cond.fieldLink own index "KioskReelModel" "lists" "I").before args s = true) (hS : va_S A H0 H locs) {v : Int} (hdg : decode cc pc = .ok (.putfield index, 3)) (kk : ∀ (H1 : Heap) (locs1 : List Loc), WP Dg mcnt ad (mE cA ad (ups σ 26 0 0 v)) H1 → va_S A H0 H1 locs1 → W p l e R s m args below meth c H1 locs1 cells slots Q (F0 m (pc + 3) ls rest)) : W p l e R s m args below meth c H locs cells slots Q (F0 m pc ls (.int (zi v) :: .ref (ad 0 0) :: rest)) :=
  r_put (N := 32) (ci := 9) (T := TX8) (C := RX8) (ty := .int) hC hW hS hin tyX8 tyX8_ok nmX8 rfl 26 (by decide) hl (fun _ h => h) rfl (by decide +kernel) rfl rfl (by decide) (by decide) rfl (Nat.le_of_ble_eq_true rfl) rfl hdg (fun H1 locs1 hW1 hS1 => kk H1 locs1 (mE_ups 26 0 0 v rfl (Or.inl rfl) hW1) hS1)
theorem mg_kiosks_f (hC : CX p c cc s m args own Ts Dg cA mcnt ad A) (hW : WP Dg mcnt ad (mE cA ad σ) H) (hin : ∀ w ∈ wsX80, w ∈ Ts) (hl : (Cond.fieldLink own index "KioskReelModel" "kiosks" "I").before args s = true) {v : Int} (hv : σ 27 0 0 = v) (hdg : decode cc pc = .ok (.getfield index, 3)) (kk : W p l e R s m args below meth c H locs cells slots Q (F0 m (pc + 3) ls (.int (zi v) :: rest))) : W p l e R s m args below meth c H locs cells slots Q (F0 m pc ls (.ref (ad 0 0) :: rest)) :=
  r_get (N := 32) (ci := 9) (T := TX8) (C := RX8) hC hW hin rfl 27 (by decide) hl (fun _ h => h) (by decide) (by decide) rfl rfl hdg (by rw [hv]; exact kk)
theorem mp_kiosks_f (hC : CX p c cc s m args own Ts Dg cA mcnt ad A) (hW : WP Dg mcnt ad (mE cA ad σ) H) (hin : ∀ w ∈ wsX80, w ∈ Ts) (hl : (Cond.fieldLink own index "KioskReelModel" "kiosks" "I").before args s = true) (hS : va_S A H0 H locs) {v : Int} (hdg : decode cc pc = .ok (.putfield index, 3)) (kk : ∀ (H1 : Heap) (locs1 : List Loc), WP Dg mcnt ad (mE cA ad (ups σ 27 0 0 v)) H1 → va_S A H0 H1 locs1 → W p l e R s m args below meth c H1 locs1 cells slots Q (F0 m (pc + 3) ls rest)) : W p l e R s m args below meth c H locs cells slots Q (F0 m pc ls (.int (zi v) :: .ref (ad 0 0) :: rest)) :=
  r_put (N := 32) (ci := 9) (T := TX8) (C := RX8) (ty := .int) hC hW hS hin tyX8 tyX8_ok nmX8 rfl 27 (by decide) hl (fun _ h => h) rfl (by decide +kernel) rfl rfl (by decide) (by decide) rfl (Nat.le_of_ble_eq_true rfl) rfl hdg (fun H1 locs1 hW1 hS1 => kk H1 locs1 (mE_ups 27 0 0 v rfl (Or.inl rfl) hW1) hS1)
theorem mg_visitors_f (hC : CX p c cc s m args own Ts Dg cA mcnt ad A) (hW : WP Dg mcnt ad (mE cA ad σ) H) (hin : ∀ w ∈ wsX80, w ∈ Ts) (hl : (Cond.fieldLink own index "KioskReelModel" "visitors" "I").before args s = true) {v : Int} (hv : σ 28 0 0 = v) (hdg : decode cc pc = .ok (.getfield index, 3)) (kk : W p l e R s m args below meth c H locs cells slots Q (F0 m (pc + 3) ls (.int (zi v) :: rest))) : W p l e R s m args below meth c H locs cells slots Q (F0 m pc ls (.ref (ad 0 0) :: rest)) :=
  r_get (N := 32) (ci := 9) (T := TX8) (C := RX8) hC hW hin rfl 28 (by decide) hl (fun _ h => h) (by decide) (by decide) rfl rfl hdg (by rw [hv]; exact kk)
theorem mp_visitors_f (hC : CX p c cc s m args own Ts Dg cA mcnt ad A) (hW : WP Dg mcnt ad (mE cA ad σ) H) (hin : ∀ w ∈ wsX80, w ∈ Ts) (hl : (Cond.fieldLink own index "KioskReelModel" "visitors" "I").before args s = true) (hS : va_S A H0 H locs) {v : Int} (hdg : decode cc pc = .ok (.putfield index, 3)) (kk : ∀ (H1 : Heap) (locs1 : List Loc), WP Dg mcnt ad (mE cA ad (ups σ 28 0 0 v)) H1 → va_S A H0 H1 locs1 → W p l e R s m args below meth c H1 locs1 cells slots Q (F0 m (pc + 3) ls rest)) : W p l e R s m args below meth c H locs cells slots Q (F0 m pc ls (.int (zi v) :: .ref (ad 0 0) :: rest)) :=
  r_put (N := 32) (ci := 9) (T := TX8) (C := RX8) (ty := .int) hC hW hS hin tyX8 tyX8_ok nmX8 rfl 28 (by decide) hl (fun _ h => h) rfl (by decide +kernel) rfl rfl (by decide) (by decide) rfl (Nat.le_of_ble_eq_true rfl) rfl hdg (fun H1 locs1 hW1 hS1 => kk H1 locs1 (mE_ups 28 0 0 v rfl (Or.inl rfl) hW1) hS1)
theorem mg_shown_f (hC : CX p c cc s m args own Ts Dg cA mcnt ad A) (hW : WP Dg mcnt ad (mE cA ad σ) H) (hin : ∀ w ∈ wsX80, w ∈ Ts) (hl : (Cond.fieldLink own index "KioskReelModel" "shown" "I").before args s = true) {v : Int} (hv : σ 30 0 0 = v) (hdg : decode cc pc = .ok (.getfield index, 3)) (kk : W p l e R s m args below meth c H locs cells slots Q (F0 m (pc + 3) ls (.int (zi v) :: rest))) : W p l e R s m args below meth c H locs cells slots Q (F0 m pc ls (.ref (ad 0 0) :: rest)) :=
  r_get (N := 32) (ci := 9) (T := TX8) (C := RX8) hC hW hin rfl 29 (by decide) hl (fun _ h => h) (by decide) (by decide) rfl rfl hdg (by rw [hv]; exact kk)
theorem mp_shown_f (hC : CX p c cc s m args own Ts Dg cA mcnt ad A) (hW : WP Dg mcnt ad (mE cA ad σ) H) (hin : ∀ w ∈ wsX80, w ∈ Ts) (hl : (Cond.fieldLink own index "KioskReelModel" "shown" "I").before args s = true) (hS : va_S A H0 H locs) {v : Int} (hdg : decode cc pc = .ok (.putfield index, 3)) (kk : ∀ (H1 : Heap) (locs1 : List Loc), WP Dg mcnt ad (mE cA ad (ups σ 30 0 0 v)) H1 → va_S A H0 H1 locs1 → W p l e R s m args below meth c H1 locs1 cells slots Q (F0 m (pc + 3) ls rest)) : W p l e R s m args below meth c H locs cells slots Q (F0 m pc ls (.int (zi v) :: .ref (ad 0 0) :: rest)) :=
  r_put (N := 32) (ci := 9) (T := TX8) (C := RX8) (ty := .int) hC hW hS hin tyX8 tyX8_ok nmX8 rfl 29 (by decide) hl (fun _ h => h) rfl (by decide +kernel) rfl rfl (by decide) (by decide) rfl (Nat.le_of_ble_eq_true rfl) rfl hdg (fun H1 locs1 hW1 hS1 => kk H1 locs1 (mE_ups 30 0 0 v rfl (Or.inl rfl) hW1) hS1)
theorem mg_thrown_f (hC : CX p c cc s m args own Ts Dg cA mcnt ad A) (hW : WP Dg mcnt ad (mE cA ad σ) H) (hin : ∀ w ∈ wsX80, w ∈ Ts) (hl : (Cond.fieldLink own index "KioskReelModel" "thrown" "I").before args s = true) {v : Int} (hv : σ 31 0 0 = v) (hdg : decode cc pc = .ok (.getfield index, 3)) (kk : W p l e R s m args below meth c H locs cells slots Q (F0 m (pc + 3) ls (.int (zi v) :: rest))) : W p l e R s m args below meth c H locs cells slots Q (F0 m pc ls (.ref (ad 0 0) :: rest)) :=
  r_get (N := 32) (ci := 9) (T := TX8) (C := RX8) hC hW hin rfl 30 (by decide) hl (fun _ h => h) (by decide) (by decide) rfl rfl hdg (by rw [hv]; exact kk)
theorem mp_thrown_f (hC : CX p c cc s m args own Ts Dg cA mcnt ad A) (hW : WP Dg mcnt ad (mE cA ad σ) H) (hin : ∀ w ∈ wsX80, w ∈ Ts) (hl : (Cond.fieldLink own index "KioskReelModel" "thrown" "I").before args s = true) (hS : va_S A H0 H locs) {v : Int} (hdg : decode cc pc = .ok (.putfield index, 3)) (kk : ∀ (H1 : Heap) (locs1 : List Loc), WP Dg mcnt ad (mE cA ad (ups σ 31 0 0 v)) H1 → va_S A H0 H1 locs1 → W p l e R s m args below meth c H1 locs1 cells slots Q (F0 m (pc + 3) ls rest)) : W p l e R s m args below meth c H locs cells slots Q (F0 m pc ls (.int (zi v) :: .ref (ad 0 0) :: rest)) :=
  r_put (N := 32) (ci := 9) (T := TX8) (C := RX8) (ty := .int) hC hW hS hin tyX8 tyX8_ok nmX8 rfl 30 (by decide) hl (fun _ h => h) rfl (by decide +kernel) rfl rfl (by decide) (by decide) rfl (Nat.le_of_ble_eq_true rfl) rfl hdg (fun H1 locs1 hW1 hS1 => kk H1 locs1 (mE_ups 31 0 0 v rfl (Or.inl rfl) hW1) hS1)
theorem mg_done_f (hC : CX p c cc s m args own Ts Dg cA mcnt ad A) (hW : WP Dg mcnt ad (mE cA ad σ) H) (hin : ∀ w ∈ wsX80, w ∈ Ts) (hl : (Cond.fieldLink own index "KioskReelModel" "done" "J").before args s = true) {v : Int} (hv : σ 29 0 0 = v) (hdg : decode cc pc = .ok (.getfield index, 3)) (kk : W p l e R s m args below meth c H locs cells slots Q (F0 m (pc + 3) ls (.long (zl v) :: rest))) : W p l e R s m args below meth c H locs cells slots Q (F0 m pc ls (.ref (ad 0 0) :: rest)) :=
  r_get (N := 32) (ci := 9) (T := TX8) (C := RX8) hC hW hin rfl 31 (by decide) hl (fun _ h => h) (by decide) (by decide) rfl rfl hdg (by rw [hv]; exact kk)
theorem mp_done_f (hC : CX p c cc s m args own Ts Dg cA mcnt ad A) (hW : WP Dg mcnt ad (mE cA ad σ) H) (hin : ∀ w ∈ wsX80, w ∈ Ts) (hl : (Cond.fieldLink own index "KioskReelModel" "done" "J").before args s = true) (hS : va_S A H0 H locs) {v : Int} (hdg : decode cc pc = .ok (.putfield index, 3)) (kk : ∀ (H1 : Heap) (locs1 : List Loc), WP Dg mcnt ad (mE cA ad (ups σ 29 0 0 v)) H1 → va_S A H0 H1 locs1 → W p l e R s m args below meth c H1 locs1 cells slots Q (F0 m (pc + 3) ls rest)) : W p l e R s m args below meth c H locs cells slots Q (F0 m pc ls (.long (zl v) :: .ref (ad 0 0) :: rest)) :=
  r_put (N := 32) (ci := 9) (T := TX8) (C := RX8) (ty := .long) hC hW hS hin tyX8 tyX8_ok nmX8 rfl 31 (by decide) hl (fun _ h => h) rfl (by decide +kernel) rfl rfl (by decide) (by decide) rfl (Nat.le_of_ble_eq_true rfl) rfl hdg (fun H1 locs1 hW1 hS1 => kk H1 locs1 (mE_ups 29 0 0 v rfl (Or.inl rfl) hW1) hS1)
theorem ma_many (hC : CX p c cc s m args own Ts Dg cA mcnt ad A) (hW : WP Dg mcnt ad (mE cA ad σ) H) {x : Int} (hx : 0 ≤ x ∧ x < 8) {v : Int} (hv : σ 3 x 0 = v) (hdg : decode cc pc = .ok (.iaload, 1)) (kk : W p l e R s m args below meth c H locs cells slots Q (F0 m (pc + 1) ls (.int (zi v) :: rest))) : W p l e R s m args below meth c H locs cells slots Q (F0 m pc ls (.int (zi x) :: .ref (ad 1 0) :: rest)) := by
  refine r_iald (n := 8) (g := fun j => σ 3 j 0) hC hW (by decide) (by decide) rfl (by decide) hx hdg ?_
  simp only [hv]
  exact kk
theorem ms_many (hC : CX p c cc s m args own Ts Dg cA mcnt ad A) (hW : WP Dg mcnt ad (mE cA ad σ) H) {x : Int} (hx : 0 ≤ x ∧ x < 8) (hS : va_S A H0 H locs) {v : Int} (hdg : decode cc pc = .ok (.iastore, 1)) (kk : ∀ (H1 : Heap) (locs1 : List Loc), WP Dg mcnt ad (mE cA ad (ups σ 3 x 0 v)) H1 → va_S A H0 H1 locs1 → W p l e R s m args below meth c H1 locs1 cells slots Q (F0 m (pc + 1) ls rest)) : W p l e R s m args below meth c H locs cells slots Q (F0 m pc ls (.int (zi v) :: .int (zi x) :: .ref (ad 1 0) :: rest)) := by
  refine r_iast (n := 8) (g := fun j => σ 3 j 0) hC hW hS (by decide) (by decide) (fun j => ups σ 3 x 0 v 3 j 0) rfl (by decide) hx (fun j h8 h9 => ?_) rfl hdg (fun H1 locs1 hW1 hS1 => kk H1 locs1 (mE_ups 3 x 0 v (by first | rfl | (simp only [mow]; rw [if_pos (by omega)]) | (simp only [mow]; rw [if_neg (by omega)])) veq.rf hW1) hS1)
  show ups σ 3 x 0 v 3 j 0 = if j = x then v else σ 3 j 0
  unfold ups
  by_cases hj : j = x
  · rw [if_pos hj]
    exact if_pos ⟨rfl, by omega, by omega⟩
  · rw [if_neg hj]
    exact if_neg (fun z => hj (by have z1 := z.2.1; have z2 := z.2.2; omega))
theorem ma_kind (hC : CX p c cc s m args own Ts Dg cA mcnt ad A) (hW : WP Dg mcnt ad (mE cA ad σ) H) {x : Int} (a b : Int) (he : x = 20 * a + b) (ha : 0 ≤ a ∧ a < 8) (hb : 0 ≤ b ∧ b < 20) {v : Int} (hv : σ 1 a b = v) (hdg : decode cc pc = .ok (.iaload, 1)) (kk : W p l e R s m args below meth c H locs cells slots Q (F0 m (pc + 1) ls (.int (zi v) :: rest))) : W p l e R s m args below meth c H locs cells slots Q (F0 m pc ls (.int (zi x) :: .ref (ad 2 0) :: rest)) := by
  refine r_iald (n := 160) (g := fun j => σ 1 (j / 20) (j % 20)) hC hW (by decide) (by decide) rfl (by decide) (by omega) hdg ?_
  have e1 : x / 20 = a := by omega
  have e2 : x % 20 = b := by omega
  simp only [e1, e2, hv]
  exact kk
theorem ms_kind (hC : CX p c cc s m args own Ts Dg cA mcnt ad A) (hW : WP Dg mcnt ad (mE cA ad σ) H) {x : Int} (a b : Int) (he : x = 20 * a + b) (ha : 0 ≤ a ∧ a < 8) (hb : 0 ≤ b ∧ b < 20) (hS : va_S A H0 H locs) {v : Int} (hdg : decode cc pc = .ok (.iastore, 1)) (kk : ∀ (H1 : Heap) (locs1 : List Loc), WP Dg mcnt ad (mE cA ad (ups σ 1 a b v)) H1 → va_S A H0 H1 locs1 → W p l e R s m args below meth c H1 locs1 cells slots Q (F0 m (pc + 1) ls rest)) : W p l e R s m args below meth c H locs cells slots Q (F0 m pc ls (.int (zi v) :: .int (zi x) :: .ref (ad 2 0) :: rest)) := by
  refine r_iast (n := 160) (g := fun j => σ 1 (j / 20) (j % 20)) hC hW hS (by decide) (by decide) (fun j => ups σ 1 a b v 1 (j / 20) (j % 20)) rfl (by decide) (by omega) (fun j h8 h9 => ?_) rfl hdg (fun H1 locs1 hW1 hS1 => kk H1 locs1 (mE_ups 1 a b v (by first | rfl | (simp only [mow]; rw [if_pos (by omega)]) | (simp only [mow]; rw [if_neg (by omega)])) veq.rf hW1) hS1)
  show ups σ 1 a b v 1 (j / 20) (j % 20) = if j = x then v else σ 1 (j / 20) (j % 20)
  unfold ups
  by_cases hj : j = x
  · rw [if_pos hj]
    exact if_pos ⟨rfl, by omega, by omega⟩
  · rw [if_neg hj]
    exact if_neg (fun z => hj (by have z1 := z.2.1; have z2 := z.2.2; omega))
theorem ma_number (hC : CX p c cc s m args own Ts Dg cA mcnt ad A) (hW : WP Dg mcnt ad (mE cA ad σ) H) {x : Int} (a b : Int) (he : x = 20 * a + b) (ha : 0 ≤ a ∧ a < 8) (hb : 0 ≤ b ∧ b < 20) {v : Int} (hv : σ 2 a b = v) (hdg : decode cc pc = .ok (.iaload, 1)) (kk : W p l e R s m args below meth c H locs cells slots Q (F0 m (pc + 1) ls (.int (zi v) :: rest))) : W p l e R s m args below meth c H locs cells slots Q (F0 m pc ls (.int (zi x) :: .ref (ad 3 0) :: rest)) := by
  refine r_iald (n := 160) (g := fun j => σ 2 (j / 20) (j % 20)) hC hW (by decide) (by decide) rfl (by decide) (by omega) hdg ?_
  have e1 : x / 20 = a := by omega
  have e2 : x % 20 = b := by omega
  simp only [e1, e2, hv]
  exact kk
theorem ms_number (hC : CX p c cc s m args own Ts Dg cA mcnt ad A) (hW : WP Dg mcnt ad (mE cA ad σ) H) {x : Int} (a b : Int) (he : x = 20 * a + b) (ha : 0 ≤ a ∧ a < 8) (hb : 0 ≤ b ∧ b < 20) (hS : va_S A H0 H locs) {v : Int} (hdg : decode cc pc = .ok (.iastore, 1)) (kk : ∀ (H1 : Heap) (locs1 : List Loc), WP Dg mcnt ad (mE cA ad (ups σ 2 a b v)) H1 → va_S A H0 H1 locs1 → W p l e R s m args below meth c H1 locs1 cells slots Q (F0 m (pc + 1) ls rest)) : W p l e R s m args below meth c H locs cells slots Q (F0 m pc ls (.int (zi v) :: .int (zi x) :: .ref (ad 3 0) :: rest)) := by
  refine r_iast (n := 160) (g := fun j => σ 2 (j / 20) (j % 20)) hC hW hS (by decide) (by decide) (fun j => ups σ 2 a b v 2 (j / 20) (j % 20)) rfl (by decide) (by omega) (fun j h8 h9 => ?_) rfl hdg (fun H1 locs1 hW1 hS1 => kk H1 locs1 (mE_ups 2 a b v (by first | rfl | (simp only [mow]; rw [if_pos (by omega)]) | (simp only [mow]; rw [if_neg (by omega)])) veq.rf hW1) hS1)
  show ups σ 2 a b v 2 (j / 20) (j % 20) = if j = x then v else σ 2 (j / 20) (j % 20)
  unfold ups
  by_cases hj : j = x
  · rw [if_pos hj]
    exact if_pos ⟨rfl, by omega, by omega⟩
  · rw [if_neg hj]
    exact if_neg (fun z => hj (by have z1 := z.2.1; have z2 := z.2.2; omega))
theorem ma_pileMany (hC : CX p c cc s m args own Ts Dg cA mcnt ad A) (hW : WP Dg mcnt ad (mE cA ad σ) H) {x : Int} (hx : 0 ≤ x ∧ x < 24) {v : Int} (hv : σ 3 (8 + x) 0 = v) (hdg : decode cc pc = .ok (.iaload, 1)) (kk : W p l e R s m args below meth c H locs cells slots Q (F0 m (pc + 1) ls (.int (zi v) :: rest))) : W p l e R s m args below meth c H locs cells slots Q (F0 m pc ls (.int (zi x) :: .ref (ad 4 0) :: rest)) := by
  refine r_iald (n := 24) (g := fun j => σ 3 (8 + j) 0) hC hW (by decide) (by decide) rfl (by decide) hx hdg ?_
  simp only [hv]
  exact kk
theorem ms_pileMany (hC : CX p c cc s m args own Ts Dg cA mcnt ad A) (hW : WP Dg mcnt ad (mE cA ad σ) H) {x : Int} (hx : 0 ≤ x ∧ x < 24) (hS : va_S A H0 H locs) {v : Int} (hdg : decode cc pc = .ok (.iastore, 1)) (kk : ∀ (H1 : Heap) (locs1 : List Loc), WP Dg mcnt ad (mE cA ad (ups σ 3 (8 + x) 0 v)) H1 → va_S A H0 H1 locs1 → W p l e R s m args below meth c H1 locs1 cells slots Q (F0 m (pc + 1) ls rest)) : W p l e R s m args below meth c H locs cells slots Q (F0 m pc ls (.int (zi v) :: .int (zi x) :: .ref (ad 4 0) :: rest)) := by
  refine r_iast (n := 24) (g := fun j => σ 3 (8 + j) 0) hC hW hS (by decide) (by decide) (fun j => ups σ 3 (8 + x) 0 v 3 (8 + j) 0) rfl (by decide) hx (fun j h8 h9 => ?_) rfl hdg (fun H1 locs1 hW1 hS1 => kk H1 locs1 (mE_ups 3 (8 + x) 0 v (by first | rfl | (simp only [mow]; rw [if_pos (by omega)]) | (simp only [mow]; rw [if_neg (by omega)])) veq.rf hW1) hS1)
  show ups σ 3 (8 + x) 0 v 3 (8 + j) 0 = if j = x then v else σ 3 (8 + j) 0
  unfold ups
  by_cases hj : j = x
  · rw [if_pos hj]
    exact if_pos ⟨rfl, by omega, by omega⟩
  · rw [if_neg hj]
    exact if_neg (fun z => hj (by have z1 := z.2.1; have z2 := z.2.2; omega))
theorem ma_pileKind (hC : CX p c cc s m args own Ts Dg cA mcnt ad A) (hW : WP Dg mcnt ad (mE cA ad σ) H) {x : Int} (a b : Int) (he : x = 20 * a + b) (ha : 0 ≤ a ∧ a < 24) (hb : 0 ≤ b ∧ b < 20) {v : Int} (hv : σ 1 (8 + a) b = v) (hdg : decode cc pc = .ok (.iaload, 1)) (kk : W p l e R s m args below meth c H locs cells slots Q (F0 m (pc + 1) ls (.int (zi v) :: rest))) : W p l e R s m args below meth c H locs cells slots Q (F0 m pc ls (.int (zi x) :: .ref (ad 5 0) :: rest)) := by
  refine r_iald (n := 480) (g := fun j => σ 1 (8 + j / 20) (j % 20)) hC hW (by decide) (by decide) rfl (by decide) (by omega) hdg ?_
  have e1 : x / 20 = a := by omega
  have e2 : x % 20 = b := by omega
  simp only [e1, e2, hv]
  exact kk
theorem ms_pileKind (hC : CX p c cc s m args own Ts Dg cA mcnt ad A) (hW : WP Dg mcnt ad (mE cA ad σ) H) {x : Int} (a b : Int) (he : x = 20 * a + b) (ha : 0 ≤ a ∧ a < 24) (hb : 0 ≤ b ∧ b < 20) (hS : va_S A H0 H locs) {v : Int} (hdg : decode cc pc = .ok (.iastore, 1)) (kk : ∀ (H1 : Heap) (locs1 : List Loc), WP Dg mcnt ad (mE cA ad (ups σ 1 (8 + a) b v)) H1 → va_S A H0 H1 locs1 → W p l e R s m args below meth c H1 locs1 cells slots Q (F0 m (pc + 1) ls rest)) : W p l e R s m args below meth c H locs cells slots Q (F0 m pc ls (.int (zi v) :: .int (zi x) :: .ref (ad 5 0) :: rest)) := by
  refine r_iast (n := 480) (g := fun j => σ 1 (8 + j / 20) (j % 20)) hC hW hS (by decide) (by decide) (fun j => ups σ 1 (8 + a) b v 1 (8 + j / 20) (j % 20)) rfl (by decide) (by omega) (fun j h8 h9 => ?_) rfl hdg (fun H1 locs1 hW1 hS1 => kk H1 locs1 (mE_ups 1 (8 + a) b v (by first | rfl | (simp only [mow]; rw [if_pos (by omega)]) | (simp only [mow]; rw [if_neg (by omega)])) veq.rf hW1) hS1)
  show ups σ 1 (8 + a) b v 1 (8 + j / 20) (j % 20) = if j = x then v else σ 1 (8 + j / 20) (j % 20)
  unfold ups
  by_cases hj : j = x
  · rw [if_pos hj]
    exact if_pos ⟨rfl, by omega, by omega⟩
  · rw [if_neg hj]
    exact if_neg (fun z => hj (by have z1 := z.2.1; have z2 := z.2.2; omega))
theorem ma_pileNumber (hC : CX p c cc s m args own Ts Dg cA mcnt ad A) (hW : WP Dg mcnt ad (mE cA ad σ) H) {x : Int} (a b : Int) (he : x = 20 * a + b) (ha : 0 ≤ a ∧ a < 24) (hb : 0 ≤ b ∧ b < 20) {v : Int} (hv : σ 2 (8 + a) b = v) (hdg : decode cc pc = .ok (.iaload, 1)) (kk : W p l e R s m args below meth c H locs cells slots Q (F0 m (pc + 1) ls (.int (zi v) :: rest))) : W p l e R s m args below meth c H locs cells slots Q (F0 m pc ls (.int (zi x) :: .ref (ad 6 0) :: rest)) := by
  refine r_iald (n := 480) (g := fun j => σ 2 (8 + j / 20) (j % 20)) hC hW (by decide) (by decide) rfl (by decide) (by omega) hdg ?_
  have e1 : x / 20 = a := by omega
  have e2 : x % 20 = b := by omega
  simp only [e1, e2, hv]
  exact kk
theorem ms_pileNumber (hC : CX p c cc s m args own Ts Dg cA mcnt ad A) (hW : WP Dg mcnt ad (mE cA ad σ) H) {x : Int} (a b : Int) (he : x = 20 * a + b) (ha : 0 ≤ a ∧ a < 24) (hb : 0 ≤ b ∧ b < 20) (hS : va_S A H0 H locs) {v : Int} (hdg : decode cc pc = .ok (.iastore, 1)) (kk : ∀ (H1 : Heap) (locs1 : List Loc), WP Dg mcnt ad (mE cA ad (ups σ 2 (8 + a) b v)) H1 → va_S A H0 H1 locs1 → W p l e R s m args below meth c H1 locs1 cells slots Q (F0 m (pc + 1) ls rest)) : W p l e R s m args below meth c H locs cells slots Q (F0 m pc ls (.int (zi v) :: .int (zi x) :: .ref (ad 6 0) :: rest)) := by
  refine r_iast (n := 480) (g := fun j => σ 2 (8 + j / 20) (j % 20)) hC hW hS (by decide) (by decide) (fun j => ups σ 2 (8 + a) b v 2 (8 + j / 20) (j % 20)) rfl (by decide) (by omega) (fun j h8 h9 => ?_) rfl hdg (fun H1 locs1 hW1 hS1 => kk H1 locs1 (mE_ups 2 (8 + a) b v (by first | rfl | (simp only [mow]; rw [if_pos (by omega)]) | (simp only [mow]; rw [if_neg (by omega)])) veq.rf hW1) hS1)
  show ups σ 2 (8 + a) b v 2 (8 + j / 20) (j % 20) = if j = x then v else σ 2 (8 + j / 20) (j % 20)
  unfold ups
  by_cases hj : j = x
  · rw [if_pos hj]
    exact if_pos ⟨rfl, by omega, by omega⟩
  · rw [if_neg hj]
    exact if_neg (fun z => hj (by have z1 := z.2.1; have z2 := z.2.2; omega))
theorem ma_pileList (hC : CX p c cc s m args own Ts Dg cA mcnt ad A) (hW : WP Dg mcnt ad (mE cA ad σ) H) {x : Int} (a b : Int) (he : x = 4 * a + b) (ha : 0 ≤ a ∧ a < 6) (hb : 0 ≤ b ∧ b < 4) {v : Int} (hv : σ 7 a b = v) (hdg : decode cc pc = .ok (.iaload, 1)) (kk : W p l e R s m args below meth c H locs cells slots Q (F0 m (pc + 1) ls (.int (zi v) :: rest))) : W p l e R s m args below meth c H locs cells slots Q (F0 m pc ls (.int (zi x) :: .ref (ad 7 0) :: rest)) := by
  refine r_iald (n := 24) (g := fun j => σ 7 (j / 4) (j % 4)) hC hW (by decide) (by decide) rfl (by decide) (by omega) hdg ?_
  have e1 : x / 4 = a := by omega
  have e2 : x % 4 = b := by omega
  simp only [e1, e2, hv]
  exact kk
theorem ms_pileList (hC : CX p c cc s m args own Ts Dg cA mcnt ad A) (hW : WP Dg mcnt ad (mE cA ad σ) H) {x : Int} (a b : Int) (he : x = 4 * a + b) (ha : 0 ≤ a ∧ a < 6) (hb : 0 ≤ b ∧ b < 4) (hS : va_S A H0 H locs) {v : Int} (hdg : decode cc pc = .ok (.iastore, 1)) (kk : ∀ (H1 : Heap) (locs1 : List Loc), WP Dg mcnt ad (mE cA ad (ups σ 7 a b v)) H1 → va_S A H0 H1 locs1 → W p l e R s m args below meth c H1 locs1 cells slots Q (F0 m (pc + 1) ls rest)) : W p l e R s m args below meth c H locs cells slots Q (F0 m pc ls (.int (zi v) :: .int (zi x) :: .ref (ad 7 0) :: rest)) := by
  refine r_iast (n := 24) (g := fun j => σ 7 (j / 4) (j % 4)) hC hW hS (by decide) (by decide) (fun j => ups σ 7 a b v 7 (j / 4) (j % 4)) rfl (by decide) (by omega) (fun j h8 h9 => ?_) rfl hdg (fun H1 locs1 hW1 hS1 => kk H1 locs1 (mE_ups 7 a b v (by first | rfl | (simp only [mow]; rw [if_pos (by omega)]) | (simp only [mow]; rw [if_neg (by omega)])) veq.rf hW1) hS1)
  show ups σ 7 a b v 7 (j / 4) (j % 4) = if j = x then v else σ 7 (j / 4) (j % 4)
  unfold ups
  by_cases hj : j = x
  · rw [if_pos hj]
    exact if_pos ⟨rfl, by omega, by omega⟩
  · rw [if_neg hj]
    exact if_neg (fun z => hj (by have z1 := z.2.1; have z2 := z.2.2; omega))
theorem ma_pileNext (hC : CX p c cc s m args own Ts Dg cA mcnt ad A) (hW : WP Dg mcnt ad (mE cA ad σ) H) {x : Int} (a b : Int) (he : x = 4 * a + b) (ha : 0 ≤ a ∧ a < 6) (hb : 0 ≤ b ∧ b < 4) {v : Int} (hv : σ 4 a b = v) (hdg : decode cc pc = .ok (.iaload, 1)) (kk : W p l e R s m args below meth c H locs cells slots Q (F0 m (pc + 1) ls (.int (zi v) :: rest))) : W p l e R s m args below meth c H locs cells slots Q (F0 m pc ls (.int (zi x) :: .ref (ad 8 0) :: rest)) := by
  refine r_iald (n := 24) (g := fun j => σ 4 (j / 4) (j % 4)) hC hW (by decide) (by decide) rfl (by decide) (by omega) hdg ?_
  have e1 : x / 4 = a := by omega
  have e2 : x % 4 = b := by omega
  simp only [e1, e2, hv]
  exact kk
theorem ms_pileNext (hC : CX p c cc s m args own Ts Dg cA mcnt ad A) (hW : WP Dg mcnt ad (mE cA ad σ) H) {x : Int} (a b : Int) (he : x = 4 * a + b) (ha : 0 ≤ a ∧ a < 6) (hb : 0 ≤ b ∧ b < 4) (hS : va_S A H0 H locs) {v : Int} (hdg : decode cc pc = .ok (.iastore, 1)) (kk : ∀ (H1 : Heap) (locs1 : List Loc), WP Dg mcnt ad (mE cA ad (ups σ 4 a b v)) H1 → va_S A H0 H1 locs1 → W p l e R s m args below meth c H1 locs1 cells slots Q (F0 m (pc + 1) ls rest)) : W p l e R s m args below meth c H locs cells slots Q (F0 m pc ls (.int (zi v) :: .int (zi x) :: .ref (ad 8 0) :: rest)) := by
  refine r_iast (n := 24) (g := fun j => σ 4 (j / 4) (j % 4)) hC hW hS (by decide) (by decide) (fun j => ups σ 4 a b v 4 (j / 4) (j % 4)) rfl (by decide) (by omega) (fun j h8 h9 => ?_) rfl hdg (fun H1 locs1 hW1 hS1 => kk H1 locs1 (mE_ups 4 a b v (by first | rfl | (simp only [mow]; rw [if_pos (by omega)]) | (simp only [mow]; rw [if_neg (by omega)])) veq.rf hW1) hS1)
  show ups σ 4 a b v 4 (j / 4) (j % 4) = if j = x then v else σ 4 (j / 4) (j % 4)
  unfold ups
  by_cases hj : j = x
  · rw [if_pos hj]
    exact if_pos ⟨rfl, by omega, by omega⟩
  · rw [if_neg hj]
    exact if_neg (fun z => hj (by have z1 := z.2.1; have z2 := z.2.2; omega))
theorem ma_hasPlayer (hC : CX p c cc s m args own Ts Dg cA mcnt ad A) (hW : WP Dg mcnt ad (mE cA ad σ) H) {x : Int} (hx : 0 ≤ x ∧ x < 6) {v : Int} (hv : σ 6 x 0 = v) (hdg : decode cc pc = .ok (.baload, 1)) (kk : W p l e R s m args below meth c H locs cells slots Q (F0 m (pc + 1) ls (.int (zi v) :: rest))) : W p l e R s m args below meth c H locs cells slots Q (F0 m pc ls (.int (zi x) :: .ref (ad 9 0) :: rest)) := by
  refine r_zald (n := 6) (g := fun j => σ 6 j 0) hC hW (by decide) (by decide) rfl (by decide) hx hdg ?_
  simp only [hv]
  exact kk
theorem ms_hasPlayer (hC : CX p c cc s m args own Ts Dg cA mcnt ad A) (hW : WP Dg mcnt ad (mE cA ad σ) H) {x : Int} (hx : 0 ≤ x ∧ x < 6) (hS : va_S A H0 H locs) {v : Int} (hy : v = 0 ∨ v = 1) (hdg : decode cc pc = .ok (.bastore, 1)) (kk : ∀ (H1 : Heap) (locs1 : List Loc), WP Dg mcnt ad (mE cA ad (ups σ 6 x 0 v)) H1 → va_S A H0 H1 locs1 → W p l e R s m args below meth c H1 locs1 cells slots Q (F0 m (pc + 1) ls rest)) : W p l e R s m args below meth c H locs cells slots Q (F0 m pc ls (.int (zi v) :: .int (zi x) :: .ref (ad 9 0) :: rest)) := by
  refine r_zast (n := 6) (g := fun j => σ 6 j 0) hC hW hS (by decide) (by decide) (fun j => ups σ 6 x 0 v 6 j 0) rfl (by decide) hy hx (fun j h8 h9 => ?_) rfl hdg (fun H1 locs1 hW1 hS1 => kk H1 locs1 (mE_ups 6 x 0 v (by first | rfl | (simp only [mow]; rw [if_pos (by omega)]) | (simp only [mow]; rw [if_neg (by omega)])) veq.rf hW1) hS1)
  show ups σ 6 x 0 v 6 j 0 = if j = x then v else σ 6 j 0
  unfold ups
  by_cases hj : j = x
  · rw [if_pos hj]
    exact if_pos ⟨rfl, by omega, by omega⟩
  · rw [if_neg hj]
    exact if_neg (fun z => hj (by have z1 := z.2.1; have z2 := z.2.2; omega))
theorem ma_isFrozen (hC : CX p c cc s m args own Ts Dg cA mcnt ad A) (hW : WP Dg mcnt ad (mE cA ad σ) H) {x : Int} (hx : 0 ≤ x ∧ x < 6) {v : Int} (hv : σ 12 x 0 = v) (hdg : decode cc pc = .ok (.baload, 1)) (kk : W p l e R s m args below meth c H locs cells slots Q (F0 m (pc + 1) ls (.int (zi v) :: rest))) : W p l e R s m args below meth c H locs cells slots Q (F0 m pc ls (.int (zi x) :: .ref (ad 10 0) :: rest)) := by
  refine r_zald (n := 6) (g := fun j => σ 12 j 0) hC hW (by decide) (by decide) rfl (by decide) hx hdg ?_
  simp only [hv]
  exact kk
theorem ms_isFrozen (hC : CX p c cc s m args own Ts Dg cA mcnt ad A) (hW : WP Dg mcnt ad (mE cA ad σ) H) {x : Int} (hx : 0 ≤ x ∧ x < 6) (hS : va_S A H0 H locs) {v : Int} (hy : v = 0 ∨ v = 1) (hdg : decode cc pc = .ok (.bastore, 1)) (kk : ∀ (H1 : Heap) (locs1 : List Loc), WP Dg mcnt ad (mE cA ad (ups σ 12 x 0 v)) H1 → va_S A H0 H1 locs1 → W p l e R s m args below meth c H1 locs1 cells slots Q (F0 m (pc + 1) ls rest)) : W p l e R s m args below meth c H locs cells slots Q (F0 m pc ls (.int (zi v) :: .int (zi x) :: .ref (ad 10 0) :: rest)) := by
  refine r_zast (n := 6) (g := fun j => σ 12 j 0) hC hW hS (by decide) (by decide) (fun j => ups σ 12 x 0 v 12 j 0) rfl (by decide) hy hx (fun j h8 h9 => ?_) rfl hdg (fun H1 locs1 hW1 hS1 => kk H1 locs1 (mE_ups 12 x 0 v (by first | rfl | (simp only [mow]; rw [if_pos (by omega)]) | (simp only [mow]; rw [if_neg (by omega)])) veq.rf hW1) hS1)
  show ups σ 12 x 0 v 12 j 0 = if j = x then v else σ 12 j 0
  unfold ups
  by_cases hj : j = x
  · rw [if_pos hj]
    exact if_pos ⟨rfl, by omega, by omega⟩
  · rw [if_neg hj]
    exact if_neg (fun z => hj (by have z1 := z.2.1; have z2 := z.2.2; omega))
theorem ma_isOut (hC : CX p c cc s m args own Ts Dg cA mcnt ad A) (hW : WP Dg mcnt ad (mE cA ad σ) H) {x : Int} (hx : 0 ≤ x ∧ x < 6) {v : Int} (hv : σ 13 x 0 = v) (hdg : decode cc pc = .ok (.baload, 1)) (kk : W p l e R s m args below meth c H locs cells slots Q (F0 m (pc + 1) ls (.int (zi v) :: rest))) : W p l e R s m args below meth c H locs cells slots Q (F0 m pc ls (.int (zi x) :: .ref (ad 11 0) :: rest)) := by
  refine r_zald (n := 6) (g := fun j => σ 13 j 0) hC hW (by decide) (by decide) rfl (by decide) hx hdg ?_
  simp only [hv]
  exact kk
theorem ms_isOut (hC : CX p c cc s m args own Ts Dg cA mcnt ad A) (hW : WP Dg mcnt ad (mE cA ad σ) H) {x : Int} (hx : 0 ≤ x ∧ x < 6) (hS : va_S A H0 H locs) {v : Int} (hy : v = 0 ∨ v = 1) (hdg : decode cc pc = .ok (.bastore, 1)) (kk : ∀ (H1 : Heap) (locs1 : List Loc), WP Dg mcnt ad (mE cA ad (ups σ 13 x 0 v)) H1 → va_S A H0 H1 locs1 → W p l e R s m args below meth c H1 locs1 cells slots Q (F0 m (pc + 1) ls rest)) : W p l e R s m args below meth c H locs cells slots Q (F0 m pc ls (.int (zi v) :: .int (zi x) :: .ref (ad 11 0) :: rest)) := by
  refine r_zast (n := 6) (g := fun j => σ 13 j 0) hC hW hS (by decide) (by decide) (fun j => ups σ 13 x 0 v 13 j 0) rfl (by decide) hy hx (fun j h8 h9 => ?_) rfl hdg (fun H1 locs1 hW1 hS1 => kk H1 locs1 (mE_ups 13 x 0 v (by first | rfl | (simp only [mow]; rw [if_pos (by omega)]) | (simp only [mow]; rw [if_neg (by omega)])) veq.rf hW1) hS1)
  show ups σ 13 x 0 v 13 j 0 = if j = x then v else σ 13 j 0
  unfold ups
  by_cases hj : j = x
  · rw [if_pos hj]
    exact if_pos ⟨rfl, by omega, by omega⟩
  · rw [if_neg hj]
    exact if_neg (fun z => hj (by have z1 := z.2.1; have z2 := z.2.2; omega))
theorem ma_depth (hC : CX p c cc s m args own Ts Dg cA mcnt ad A) (hW : WP Dg mcnt ad (mE cA ad σ) H) {x : Int} (hx : 0 ≤ x ∧ x < 6) {v : Int} (hv : σ 24 x 0 = v) (hdg : decode cc pc = .ok (.iaload, 1)) (kk : W p l e R s m args below meth c H locs cells slots Q (F0 m (pc + 1) ls (.int (zi v) :: rest))) : W p l e R s m args below meth c H locs cells slots Q (F0 m pc ls (.int (zi x) :: .ref (ad 12 0) :: rest)) := by
  refine r_iald (n := 6) (g := fun j => σ 24 j 0) hC hW (by decide) (by decide) rfl (by decide) hx hdg ?_
  simp only [hv]
  exact kk
theorem ms_depth (hC : CX p c cc s m args own Ts Dg cA mcnt ad A) (hW : WP Dg mcnt ad (mE cA ad σ) H) {x : Int} (hx : 0 ≤ x ∧ x < 6) (hS : va_S A H0 H locs) {v : Int} (hdg : decode cc pc = .ok (.iastore, 1)) (kk : ∀ (H1 : Heap) (locs1 : List Loc), WP Dg mcnt ad (mE cA ad (ups σ 24 x 0 v)) H1 → va_S A H0 H1 locs1 → W p l e R s m args below meth c H1 locs1 cells slots Q (F0 m (pc + 1) ls rest)) : W p l e R s m args below meth c H locs cells slots Q (F0 m pc ls (.int (zi v) :: .int (zi x) :: .ref (ad 12 0) :: rest)) := by
  refine r_iast (n := 6) (g := fun j => σ 24 j 0) hC hW hS (by decide) (by decide) (fun j => ups σ 24 x 0 v 24 j 0) rfl (by decide) hx (fun j h8 h9 => ?_) rfl hdg (fun H1 locs1 hW1 hS1 => kk H1 locs1 (mE_ups 24 x 0 v (by first | rfl | (simp only [mow]; rw [if_pos (by omega)]) | (simp only [mow]; rw [if_neg (by omega)])) veq.rf hW1) hS1)
  show ups σ 24 x 0 v 24 j 0 = if j = x then v else σ 24 j 0
  unfold ups
  by_cases hj : j = x
  · rw [if_pos hj]
    exact if_pos ⟨rfl, by omega, by omega⟩
  · rw [if_neg hj]
    exact if_neg (fun z => hj (by have z1 := z.2.1; have z2 := z.2.2; omega))
theorem ma_at (hC : CX p c cc s m args own Ts Dg cA mcnt ad A) (hW : WP Dg mcnt ad (mE cA ad σ) H) {x : Int} (hx : 0 ≤ x ∧ x < 6) {v : Int} (hv : σ 8 x 0 = v) (hdg : decode cc pc = .ok (.iaload, 1)) (kk : W p l e R s m args below meth c H locs cells slots Q (F0 m (pc + 1) ls (.int (zi v) :: rest))) : W p l e R s m args below meth c H locs cells slots Q (F0 m pc ls (.int (zi x) :: .ref (ad 13 0) :: rest)) := by
  refine r_iald (n := 6) (g := fun j => σ 8 j 0) hC hW (by decide) (by decide) rfl (by decide) hx hdg ?_
  simp only [hv]
  exact kk
theorem ms_at (hC : CX p c cc s m args own Ts Dg cA mcnt ad A) (hW : WP Dg mcnt ad (mE cA ad σ) H) {x : Int} (hx : 0 ≤ x ∧ x < 6) (hS : va_S A H0 H locs) {v : Int} (hdg : decode cc pc = .ok (.iastore, 1)) (kk : ∀ (H1 : Heap) (locs1 : List Loc), WP Dg mcnt ad (mE cA ad (ups σ 8 x 0 v)) H1 → va_S A H0 H1 locs1 → W p l e R s m args below meth c H1 locs1 cells slots Q (F0 m (pc + 1) ls rest)) : W p l e R s m args below meth c H locs cells slots Q (F0 m pc ls (.int (zi v) :: .int (zi x) :: .ref (ad 13 0) :: rest)) := by
  refine r_iast (n := 6) (g := fun j => σ 8 j 0) hC hW hS (by decide) (by decide) (fun j => ups σ 8 x 0 v 8 j 0) rfl (by decide) hx (fun j h8 h9 => ?_) rfl hdg (fun H1 locs1 hW1 hS1 => kk H1 locs1 (mE_ups 8 x 0 v (by first | rfl | (simp only [mow]; rw [if_pos (by omega)]) | (simp only [mow]; rw [if_neg (by omega)])) veq.rf hW1) hS1)
  show ups σ 8 x 0 v 8 j 0 = if j = x then v else σ 8 j 0
  unfold ups
  by_cases hj : j = x
  · rw [if_pos hj]
    exact if_pos ⟨rfl, by omega, by omega⟩
  · rw [if_neg hj]
    exact if_neg (fun z => hj (by have z1 := z.2.1; have z2 := z.2.2; omega))
theorem ma_counts (hC : CX p c cc s m args own Ts Dg cA mcnt ad A) (hW : WP Dg mcnt ad (mE cA ad σ) H) {x : Int} (hx : 0 ≤ x ∧ x < 6) {v : Int} (hv : σ 9 x 0 = v) (hdg : decode cc pc = .ok (.iaload, 1)) (kk : W p l e R s m args below meth c H locs cells slots Q (F0 m (pc + 1) ls (.int (zi v) :: rest))) : W p l e R s m args below meth c H locs cells slots Q (F0 m pc ls (.int (zi x) :: .ref (ad 14 0) :: rest)) := by
  refine r_iald (n := 6) (g := fun j => σ 9 j 0) hC hW (by decide) (by decide) rfl (by decide) hx hdg ?_
  simp only [hv]
  exact kk
theorem ms_counts (hC : CX p c cc s m args own Ts Dg cA mcnt ad A) (hW : WP Dg mcnt ad (mE cA ad σ) H) {x : Int} (hx : 0 ≤ x ∧ x < 6) (hS : va_S A H0 H locs) {v : Int} (hdg : decode cc pc = .ok (.iastore, 1)) (kk : ∀ (H1 : Heap) (locs1 : List Loc), WP Dg mcnt ad (mE cA ad (ups σ 9 x 0 v)) H1 → va_S A H0 H1 locs1 → W p l e R s m args below meth c H1 locs1 cells slots Q (F0 m (pc + 1) ls rest)) : W p l e R s m args below meth c H locs cells slots Q (F0 m pc ls (.int (zi v) :: .int (zi x) :: .ref (ad 14 0) :: rest)) := by
  refine r_iast (n := 6) (g := fun j => σ 9 j 0) hC hW hS (by decide) (by decide) (fun j => ups σ 9 x 0 v 9 j 0) rfl (by decide) hx (fun j h8 h9 => ?_) rfl hdg (fun H1 locs1 hW1 hS1 => kk H1 locs1 (mE_ups 9 x 0 v (by first | rfl | (simp only [mow]; rw [if_pos (by omega)]) | (simp only [mow]; rw [if_neg (by omega)])) veq.rf hW1) hS1)
  show ups σ 9 x 0 v 9 j 0 = if j = x then v else σ 9 j 0
  unfold ups
  by_cases hj : j = x
  · rw [if_pos hj]
    exact if_pos ⟨rfl, by omega, by omega⟩
  · rw [if_neg hj]
    exact if_neg (fun z => hj (by have z1 := z.2.1; have z2 := z.2.2; omega))
theorem ma_ticks (hC : CX p c cc s m args own Ts Dg cA mcnt ad A) (hW : WP Dg mcnt ad (mE cA ad σ) H) {x : Int} (hx : 0 ≤ x ∧ x < 6) {v : Int} (hv : σ 10 x 0 = v) (hdg : decode cc pc = .ok (.iaload, 1)) (kk : W p l e R s m args below meth c H locs cells slots Q (F0 m (pc + 1) ls (.int (zi v) :: rest))) : W p l e R s m args below meth c H locs cells slots Q (F0 m pc ls (.int (zi x) :: .ref (ad 15 0) :: rest)) := by
  refine r_iald (n := 6) (g := fun j => σ 10 j 0) hC hW (by decide) (by decide) rfl (by decide) hx hdg ?_
  simp only [hv]
  exact kk
theorem ms_ticks (hC : CX p c cc s m args own Ts Dg cA mcnt ad A) (hW : WP Dg mcnt ad (mE cA ad σ) H) {x : Int} (hx : 0 ≤ x ∧ x < 6) (hS : va_S A H0 H locs) {v : Int} (hdg : decode cc pc = .ok (.iastore, 1)) (kk : ∀ (H1 : Heap) (locs1 : List Loc), WP Dg mcnt ad (mE cA ad (ups σ 10 x 0 v)) H1 → va_S A H0 H1 locs1 → W p l e R s m args below meth c H1 locs1 cells slots Q (F0 m (pc + 1) ls rest)) : W p l e R s m args below meth c H locs cells slots Q (F0 m pc ls (.int (zi v) :: .int (zi x) :: .ref (ad 15 0) :: rest)) := by
  refine r_iast (n := 6) (g := fun j => σ 10 j 0) hC hW hS (by decide) (by decide) (fun j => ups σ 10 x 0 v 10 j 0) rfl (by decide) hx (fun j h8 h9 => ?_) rfl hdg (fun H1 locs1 hW1 hS1 => kk H1 locs1 (mE_ups 10 x 0 v (by first | rfl | (simp only [mow]; rw [if_pos (by omega)]) | (simp only [mow]; rw [if_neg (by omega)])) veq.rf hW1) hS1)
  show ups σ 10 x 0 v 10 j 0 = if j = x then v else σ 10 j 0
  unfold ups
  by_cases hj : j = x
  · rw [if_pos hj]
    exact if_pos ⟨rfl, by omega, by omega⟩
  · rw [if_neg hj]
    exact if_neg (fun z => hj (by have z1 := z.2.1; have z2 := z.2.2; omega))
theorem ma_wanted (hC : CX p c cc s m args own Ts Dg cA mcnt ad A) (hW : WP Dg mcnt ad (mE cA ad σ) H) {x : Int} (hx : 0 ≤ x ∧ x < 6) {v : Int} (hv : σ 25 x 0 = v) (hdg : decode cc pc = .ok (.iaload, 1)) (kk : W p l e R s m args below meth c H locs cells slots Q (F0 m (pc + 1) ls (.int (zi v) :: rest))) : W p l e R s m args below meth c H locs cells slots Q (F0 m pc ls (.int (zi x) :: .ref (ad 16 0) :: rest)) := by
  refine r_iald (n := 6) (g := fun j => σ 25 j 0) hC hW (by decide) (by decide) rfl (by decide) hx hdg ?_
  simp only [hv]
  exact kk
theorem ms_wanted (hC : CX p c cc s m args own Ts Dg cA mcnt ad A) (hW : WP Dg mcnt ad (mE cA ad σ) H) {x : Int} (hx : 0 ≤ x ∧ x < 6) (hS : va_S A H0 H locs) {v : Int} (hdg : decode cc pc = .ok (.iastore, 1)) (kk : ∀ (H1 : Heap) (locs1 : List Loc), WP Dg mcnt ad (mE cA ad (ups σ 25 x 0 v)) H1 → va_S A H0 H1 locs1 → W p l e R s m args below meth c H1 locs1 cells slots Q (F0 m (pc + 1) ls rest)) : W p l e R s m args below meth c H locs cells slots Q (F0 m pc ls (.int (zi v) :: .int (zi x) :: .ref (ad 16 0) :: rest)) := by
  refine r_iast (n := 6) (g := fun j => σ 25 j 0) hC hW hS (by decide) (by decide) (fun j => ups σ 25 x 0 v 25 j 0) rfl (by decide) hx (fun j h8 h9 => ?_) rfl hdg (fun H1 locs1 hW1 hS1 => kk H1 locs1 (mE_ups 25 x 0 v (by first | rfl | (simp only [mow]; rw [if_pos (by omega)]) | (simp only [mow]; rw [if_neg (by omega)])) veq.rf hW1) hS1)
  show ups σ 25 x 0 v 25 j 0 = if j = x then v else σ 25 j 0
  unfold ups
  by_cases hj : j = x
  · rw [if_pos hj]
    exact if_pos ⟨rfl, by omega, by omega⟩
  · rw [if_neg hj]
    exact if_neg (fun z => hj (by have z1 := z.2.1; have z2 := z.2.2; omega))
theorem ma_frozenFor (hC : CX p c cc s m args own Ts Dg cA mcnt ad A) (hW : WP Dg mcnt ad (mE cA ad σ) H) {x : Int} (hx : 0 ≤ x ∧ x < 6) {v : Int} (hv : σ 23 x 0 = v) (hdg : decode cc pc = .ok (.iaload, 1)) (kk : W p l e R s m args below meth c H locs cells slots Q (F0 m (pc + 1) ls (.int (zi v) :: rest))) : W p l e R s m args below meth c H locs cells slots Q (F0 m pc ls (.int (zi x) :: .ref (ad 17 0) :: rest)) := by
  refine r_iald (n := 6) (g := fun j => σ 23 j 0) hC hW (by decide) (by decide) rfl (by decide) hx hdg ?_
  simp only [hv]
  exact kk
theorem ms_frozenFor (hC : CX p c cc s m args own Ts Dg cA mcnt ad A) (hW : WP Dg mcnt ad (mE cA ad σ) H) {x : Int} (hx : 0 ≤ x ∧ x < 6) (hS : va_S A H0 H locs) {v : Int} (hdg : decode cc pc = .ok (.iastore, 1)) (kk : ∀ (H1 : Heap) (locs1 : List Loc), WP Dg mcnt ad (mE cA ad (ups σ 23 x 0 v)) H1 → va_S A H0 H1 locs1 → W p l e R s m args below meth c H1 locs1 cells slots Q (F0 m (pc + 1) ls rest)) : W p l e R s m args below meth c H locs cells slots Q (F0 m pc ls (.int (zi v) :: .int (zi x) :: .ref (ad 17 0) :: rest)) := by
  refine r_iast (n := 6) (g := fun j => σ 23 j 0) hC hW hS (by decide) (by decide) (fun j => ups σ 23 x 0 v 23 j 0) rfl (by decide) hx (fun j h8 h9 => ?_) rfl hdg (fun H1 locs1 hW1 hS1 => kk H1 locs1 (mE_ups 23 x 0 v (by first | rfl | (simp only [mow]; rw [if_pos (by omega)]) | (simp only [mow]; rw [if_neg (by omega)])) veq.rf hW1) hS1)
  show ups σ 23 x 0 v 23 j 0 = if j = x then v else σ 23 j 0
  unfold ups
  by_cases hj : j = x
  · rw [if_pos hj]
    exact if_pos ⟨rfl, by omega, by omega⟩
  · rw [if_neg hj]
    exact if_neg (fun z => hj (by have z1 := z.2.1; have z2 := z.2.2; omega))
theorem ma_slide (hC : CX p c cc s m args own Ts Dg cA mcnt ad A) (hW : WP Dg mcnt ad (mE cA ad σ) H) {x : Int} (hx : 0 ≤ x ∧ x < 6) {v : Int} (hv : σ 15 x 0 = v) (hdg : decode cc pc = .ok (.iaload, 1)) (kk : W p l e R s m args below meth c H locs cells slots Q (F0 m (pc + 1) ls (.int (zi v) :: rest))) : W p l e R s m args below meth c H locs cells slots Q (F0 m pc ls (.int (zi x) :: .ref (ad 18 0) :: rest)) := by
  refine r_iald (n := 6) (g := fun j => σ 15 j 0) hC hW (by decide) (by decide) rfl (by decide) hx hdg ?_
  simp only [hv]
  exact kk
theorem ms_slide (hC : CX p c cc s m args own Ts Dg cA mcnt ad A) (hW : WP Dg mcnt ad (mE cA ad σ) H) {x : Int} (hx : 0 ≤ x ∧ x < 6) (hS : va_S A H0 H locs) {v : Int} (hdg : decode cc pc = .ok (.iastore, 1)) (kk : ∀ (H1 : Heap) (locs1 : List Loc), WP Dg mcnt ad (mE cA ad (ups σ 15 x 0 v)) H1 → va_S A H0 H1 locs1 → W p l e R s m args below meth c H1 locs1 cells slots Q (F0 m (pc + 1) ls rest)) : W p l e R s m args below meth c H locs cells slots Q (F0 m pc ls (.int (zi v) :: .int (zi x) :: .ref (ad 18 0) :: rest)) := by
  refine r_iast (n := 6) (g := fun j => σ 15 j 0) hC hW hS (by decide) (by decide) (fun j => ups σ 15 x 0 v 15 j 0) rfl (by decide) hx (fun j h8 h9 => ?_) rfl hdg (fun H1 locs1 hW1 hS1 => kk H1 locs1 (mE_ups 15 x 0 v (by first | rfl | (simp only [mow]; rw [if_pos (by omega)]) | (simp only [mow]; rw [if_neg (by omega)])) veq.rf hW1) hS1)
  show ups σ 15 x 0 v 15 j 0 = if j = x then v else σ 15 j 0
  unfold ups
  by_cases hj : j = x
  · rw [if_pos hj]
    exact if_pos ⟨rfl, by omega, by omega⟩
  · rw [if_neg hj]
    exact if_neg (fun z => hj (by have z1 := z.2.1; have z2 := z.2.2; omega))
theorem ma_playing (hC : CX p c cc s m args own Ts Dg cA mcnt ad A) (hW : WP Dg mcnt ad (mE cA ad σ) H) {x : Int} (a b : Int) (he : x = 6 * a + b) (ha : 0 ≤ a ∧ a < 6) (hb : 0 ≤ b ∧ b < 6) {v : Int} (hv : σ 16 a b = v) (hdg : decode cc pc = .ok (.iaload, 1)) (kk : W p l e R s m args below meth c H locs cells slots Q (F0 m (pc + 1) ls (.int (zi v) :: rest))) : W p l e R s m args below meth c H locs cells slots Q (F0 m pc ls (.int (zi x) :: .ref (ad 19 0) :: rest)) := by
  refine r_iald (n := 36) (g := fun j => σ 16 (j / 6) (j % 6)) hC hW (by decide) (by decide) rfl (by decide) (by omega) hdg ?_
  have e1 : x / 6 = a := by omega
  have e2 : x % 6 = b := by omega
  simp only [e1, e2, hv]
  exact kk
theorem ms_playing (hC : CX p c cc s m args own Ts Dg cA mcnt ad A) (hW : WP Dg mcnt ad (mE cA ad σ) H) {x : Int} (a b : Int) (he : x = 6 * a + b) (ha : 0 ≤ a ∧ a < 6) (hb : 0 ≤ b ∧ b < 6) (hS : va_S A H0 H locs) {v : Int} (hdg : decode cc pc = .ok (.iastore, 1)) (kk : ∀ (H1 : Heap) (locs1 : List Loc), WP Dg mcnt ad (mE cA ad (ups σ 16 a b v)) H1 → va_S A H0 H1 locs1 → W p l e R s m args below meth c H1 locs1 cells slots Q (F0 m (pc + 1) ls rest)) : W p l e R s m args below meth c H locs cells slots Q (F0 m pc ls (.int (zi v) :: .int (zi x) :: .ref (ad 19 0) :: rest)) := by
  refine r_iast (n := 36) (g := fun j => σ 16 (j / 6) (j % 6)) hC hW hS (by decide) (by decide) (fun j => ups σ 16 a b v 16 (j / 6) (j % 6)) rfl (by decide) (by omega) (fun j h8 h9 => ?_) rfl hdg (fun H1 locs1 hW1 hS1 => kk H1 locs1 (mE_ups 16 a b v (by first | rfl | (simp only [mow]; rw [if_pos (by omega)]) | (simp only [mow]; rw [if_neg (by omega)])) veq.rf hW1) hS1)
  show ups σ 16 a b v 16 (j / 6) (j % 6) = if j = x then v else σ 16 (j / 6) (j % 6)
  unfold ups
  by_cases hj : j = x
  · rw [if_pos hj]
    exact if_pos ⟨rfl, by omega, by omega⟩
  · rw [if_neg hj]
    exact if_neg (fun z => hj (by have z1 := z.2.1; have z2 := z.2.2; omega))
theorem ma_playingMany (hC : CX p c cc s m args own Ts Dg cA mcnt ad A) (hW : WP Dg mcnt ad (mE cA ad σ) H) {x : Int} (hx : 0 ≤ x ∧ x < 6) {v : Int} (hv : σ 17 x 0 = v) (hdg : decode cc pc = .ok (.iaload, 1)) (kk : W p l e R s m args below meth c H locs cells slots Q (F0 m (pc + 1) ls (.int (zi v) :: rest))) : W p l e R s m args below meth c H locs cells slots Q (F0 m pc ls (.int (zi x) :: .ref (ad 20 0) :: rest)) := by
  refine r_iald (n := 6) (g := fun j => σ 17 j 0) hC hW (by decide) (by decide) rfl (by decide) hx hdg ?_
  simp only [hv]
  exact kk
theorem ms_playingMany (hC : CX p c cc s m args own Ts Dg cA mcnt ad A) (hW : WP Dg mcnt ad (mE cA ad σ) H) {x : Int} (hx : 0 ≤ x ∧ x < 6) (hS : va_S A H0 H locs) {v : Int} (hdg : decode cc pc = .ok (.iastore, 1)) (kk : ∀ (H1 : Heap) (locs1 : List Loc), WP Dg mcnt ad (mE cA ad (ups σ 17 x 0 v)) H1 → va_S A H0 H1 locs1 → W p l e R s m args below meth c H1 locs1 cells slots Q (F0 m (pc + 1) ls rest)) : W p l e R s m args below meth c H locs cells slots Q (F0 m pc ls (.int (zi v) :: .int (zi x) :: .ref (ad 20 0) :: rest)) := by
  refine r_iast (n := 6) (g := fun j => σ 17 j 0) hC hW hS (by decide) (by decide) (fun j => ups σ 17 x 0 v 17 j 0) rfl (by decide) hx (fun j h8 h9 => ?_) rfl hdg (fun H1 locs1 hW1 hS1 => kk H1 locs1 (mE_ups 17 x 0 v (by first | rfl | (simp only [mow]; rw [if_pos (by omega)]) | (simp only [mow]; rw [if_neg (by omega)])) veq.rf hW1) hS1)
  show ups σ 17 x 0 v 17 j 0 = if j = x then v else σ 17 j 0
  unfold ups
  by_cases hj : j = x
  · rw [if_pos hj]
    exact if_pos ⟨rfl, by omega, by omega⟩
  · rw [if_neg hj]
    exact if_neg (fun z => hj (by have z1 := z.2.1; have z2 := z.2.2; omega))
theorem ma_holder (hC : CX p c cc s m args own Ts Dg cA mcnt ad A) (hW : WP Dg mcnt ad (mE cA ad σ) H) {x : Int} (hx : 0 ≤ x ∧ x < 6) {v : Int} (hv : σ 18 x 0 = v) (hdg : decode cc pc = .ok (.iaload, 1)) (kk : W p l e R s m args below meth c H locs cells slots Q (F0 m (pc + 1) ls (.int (zi v) :: rest))) : W p l e R s m args below meth c H locs cells slots Q (F0 m pc ls (.int (zi x) :: .ref (ad 21 0) :: rest)) := by
  refine r_iald (n := 6) (g := fun j => σ 18 j 0) hC hW (by decide) (by decide) rfl (by decide) hx hdg ?_
  simp only [hv]
  exact kk
theorem ms_holder (hC : CX p c cc s m args own Ts Dg cA mcnt ad A) (hW : WP Dg mcnt ad (mE cA ad σ) H) {x : Int} (hx : 0 ≤ x ∧ x < 6) (hS : va_S A H0 H locs) {v : Int} (hdg : decode cc pc = .ok (.iastore, 1)) (kk : ∀ (H1 : Heap) (locs1 : List Loc), WP Dg mcnt ad (mE cA ad (ups σ 18 x 0 v)) H1 → va_S A H0 H1 locs1 → W p l e R s m args below meth c H1 locs1 cells slots Q (F0 m (pc + 1) ls rest)) : W p l e R s m args below meth c H locs cells slots Q (F0 m pc ls (.int (zi v) :: .int (zi x) :: .ref (ad 21 0) :: rest)) := by
  refine r_iast (n := 6) (g := fun j => σ 18 j 0) hC hW hS (by decide) (by decide) (fun j => ups σ 18 x 0 v 18 j 0) rfl (by decide) hx (fun j h8 h9 => ?_) rfl hdg (fun H1 locs1 hW1 hS1 => kk H1 locs1 (mE_ups 18 x 0 v (by first | rfl | (simp only [mow]; rw [if_pos (by omega)]) | (simp only [mow]; rw [if_neg (by omega)])) veq.rf hW1) hS1)
  show ups σ 18 x 0 v 18 j 0 = if j = x then v else σ 18 j 0
  unfold ups
  by_cases hj : j = x
  · rw [if_pos hj]
    exact if_pos ⟨rfl, by omega, by omega⟩
  · rw [if_neg hj]
    exact if_neg (fun z => hj (by have z1 := z.2.1; have z2 := z.2.2; omega))
theorem ma_queue (hC : CX p c cc s m args own Ts Dg cA mcnt ad A) (hW : WP Dg mcnt ad (mE cA ad σ) H) {x : Int} (a b : Int) (he : x = 6 * a + b) (ha : 0 ≤ a ∧ a < 6) (hb : 0 ≤ b ∧ b < 6) {v : Int} (hv : σ 16 (6 + a) b = v) (hdg : decode cc pc = .ok (.iaload, 1)) (kk : W p l e R s m args below meth c H locs cells slots Q (F0 m (pc + 1) ls (.int (zi v) :: rest))) : W p l e R s m args below meth c H locs cells slots Q (F0 m pc ls (.int (zi x) :: .ref (ad 22 0) :: rest)) := by
  refine r_iald (n := 36) (g := fun j => σ 16 (6 + j / 6) (j % 6)) hC hW (by decide) (by decide) rfl (by decide) (by omega) hdg ?_
  have e1 : x / 6 = a := by omega
  have e2 : x % 6 = b := by omega
  simp only [e1, e2, hv]
  exact kk
theorem ms_queue (hC : CX p c cc s m args own Ts Dg cA mcnt ad A) (hW : WP Dg mcnt ad (mE cA ad σ) H) {x : Int} (a b : Int) (he : x = 6 * a + b) (ha : 0 ≤ a ∧ a < 6) (hb : 0 ≤ b ∧ b < 6) (hS : va_S A H0 H locs) {v : Int} (hdg : decode cc pc = .ok (.iastore, 1)) (kk : ∀ (H1 : Heap) (locs1 : List Loc), WP Dg mcnt ad (mE cA ad (ups σ 16 (6 + a) b v)) H1 → va_S A H0 H1 locs1 → W p l e R s m args below meth c H1 locs1 cells slots Q (F0 m (pc + 1) ls rest)) : W p l e R s m args below meth c H locs cells slots Q (F0 m pc ls (.int (zi v) :: .int (zi x) :: .ref (ad 22 0) :: rest)) := by
  refine r_iast (n := 36) (g := fun j => σ 16 (6 + j / 6) (j % 6)) hC hW hS (by decide) (by decide) (fun j => ups σ 16 (6 + a) b v 16 (6 + j / 6) (j % 6)) rfl (by decide) (by omega) (fun j h8 h9 => ?_) rfl hdg (fun H1 locs1 hW1 hS1 => kk H1 locs1 (mE_ups 16 (6 + a) b v (by first | rfl | (simp only [mow]; rw [if_pos (by omega)]) | (simp only [mow]; rw [if_neg (by omega)])) veq.rf hW1) hS1)
  show ups σ 16 (6 + a) b v 16 (6 + j / 6) (j % 6) = if j = x then v else σ 16 (6 + j / 6) (j % 6)
  unfold ups
  by_cases hj : j = x
  · rw [if_pos hj]
    exact if_pos ⟨rfl, by omega, by omega⟩
  · rw [if_neg hj]
    exact if_neg (fun z => hj (by have z1 := z.2.1; have z2 := z.2.2; omega))
theorem ma_queueMany (hC : CX p c cc s m args own Ts Dg cA mcnt ad A) (hW : WP Dg mcnt ad (mE cA ad σ) H) {x : Int} (hx : 0 ≤ x ∧ x < 6) {v : Int} (hv : σ 17 (6 + x) 0 = v) (hdg : decode cc pc = .ok (.iaload, 1)) (kk : W p l e R s m args below meth c H locs cells slots Q (F0 m (pc + 1) ls (.int (zi v) :: rest))) : W p l e R s m args below meth c H locs cells slots Q (F0 m pc ls (.int (zi x) :: .ref (ad 23 0) :: rest)) := by
  refine r_iald (n := 6) (g := fun j => σ 17 (6 + j) 0) hC hW (by decide) (by decide) rfl (by decide) hx hdg ?_
  simp only [hv]
  exact kk
theorem ms_queueMany (hC : CX p c cc s m args own Ts Dg cA mcnt ad A) (hW : WP Dg mcnt ad (mE cA ad σ) H) {x : Int} (hx : 0 ≤ x ∧ x < 6) (hS : va_S A H0 H locs) {v : Int} (hdg : decode cc pc = .ok (.iastore, 1)) (kk : ∀ (H1 : Heap) (locs1 : List Loc), WP Dg mcnt ad (mE cA ad (ups σ 17 (6 + x) 0 v)) H1 → va_S A H0 H1 locs1 → W p l e R s m args below meth c H1 locs1 cells slots Q (F0 m (pc + 1) ls rest)) : W p l e R s m args below meth c H locs cells slots Q (F0 m pc ls (.int (zi v) :: .int (zi x) :: .ref (ad 23 0) :: rest)) := by
  refine r_iast (n := 6) (g := fun j => σ 17 (6 + j) 0) hC hW hS (by decide) (by decide) (fun j => ups σ 17 (6 + x) 0 v 17 (6 + j) 0) rfl (by decide) hx (fun j h8 h9 => ?_) rfl hdg (fun H1 locs1 hW1 hS1 => kk H1 locs1 (mE_ups 17 (6 + x) 0 v (by first | rfl | (simp only [mow]; rw [if_pos (by omega)]) | (simp only [mow]; rw [if_neg (by omega)])) veq.rf hW1) hS1)
  show ups σ 17 (6 + x) 0 v 17 (6 + j) 0 = if j = x then v else σ 17 (6 + j) 0
  unfold ups
  by_cases hj : j = x
  · rw [if_pos hj]
    exact if_pos ⟨rfl, by omega, by omega⟩
  · rw [if_neg hj]
    exact if_neg (fun z => hj (by have z1 := z.2.1; have z2 := z.2.2; omega))
theorem ma_saw (hC : CX p c cc s m args own Ts Dg cA mcnt ad A) (hW : WP Dg mcnt ad (mE cA ad σ) H) {x : Int} (a b : Int) (he : x = 100 * a + b) (ha : 0 ≤ a ∧ a < 10) (hb : 0 ≤ b ∧ b < 100) {v : Int} (hv : σ 19 a b = v) (hdg : decode cc pc = .ok (.iaload, 1)) (kk : W p l e R s m args below meth c H locs cells slots Q (F0 m (pc + 1) ls (.int (zi v) :: rest))) : W p l e R s m args below meth c H locs cells slots Q (F0 m pc ls (.int (zi x) :: .ref (ad 24 0) :: rest)) := by
  refine r_iald (n := 1000) (g := fun j => σ 19 (j / 100) (j % 100)) hC hW (by decide) (by decide) rfl (by decide) (by omega) hdg ?_
  have e1 : x / 100 = a := by omega
  have e2 : x % 100 = b := by omega
  simp only [e1, e2, hv]
  exact kk
theorem ms_saw (hC : CX p c cc s m args own Ts Dg cA mcnt ad A) (hW : WP Dg mcnt ad (mE cA ad σ) H) {x : Int} (a b : Int) (he : x = 100 * a + b) (ha : 0 ≤ a ∧ a < 10) (hb : 0 ≤ b ∧ b < 100) (hS : va_S A H0 H locs) {v : Int} (hdg : decode cc pc = .ok (.iastore, 1)) (kk : ∀ (H1 : Heap) (locs1 : List Loc), WP Dg mcnt ad (mE cA ad (ups σ 19 a b v)) H1 → va_S A H0 H1 locs1 → W p l e R s m args below meth c H1 locs1 cells slots Q (F0 m (pc + 1) ls rest)) : W p l e R s m args below meth c H locs cells slots Q (F0 m pc ls (.int (zi v) :: .int (zi x) :: .ref (ad 24 0) :: rest)) := by
  refine r_iast (n := 1000) (g := fun j => σ 19 (j / 100) (j % 100)) hC hW hS (by decide) (by decide) (fun j => ups σ 19 a b v 19 (j / 100) (j % 100)) rfl (by decide) (by omega) (fun j h8 h9 => ?_) rfl hdg (fun H1 locs1 hW1 hS1 => kk H1 locs1 (mE_ups 19 a b v (by first | rfl | (simp only [mow]; rw [if_pos (by omega)]) | (simp only [mow]; rw [if_neg (by omega)])) veq.rf hW1) hS1)
  show ups σ 19 a b v 19 (j / 100) (j % 100) = if j = x then v else σ 19 (j / 100) (j % 100)
  unfold ups
  by_cases hj : j = x
  · rw [if_pos hj]
    exact if_pos ⟨rfl, by omega, by omega⟩
  · rw [if_neg hj]
    exact if_neg (fun z => hj (by have z1 := z.2.1; have z2 := z.2.2; omega))
theorem ma_place (hC : CX p c cc s m args own Ts Dg cA mcnt ad A) (hW : WP Dg mcnt ad (mE cA ad σ) H) {x : Int} (hx : 0 ≤ x ∧ x < 10) {v : Int} (hv : σ 22 x 0 = v) (hdg : decode cc pc = .ok (.iaload, 1)) (kk : W p l e R s m args below meth c H locs cells slots Q (F0 m (pc + 1) ls (.int (zi v) :: rest))) : W p l e R s m args below meth c H locs cells slots Q (F0 m pc ls (.int (zi x) :: .ref (ad 25 0) :: rest)) := by
  refine r_iald (n := 10) (g := fun j => σ 22 j 0) hC hW (by decide) (by decide) rfl (by decide) hx hdg ?_
  simp only [hv]
  exact kk
theorem ms_place (hC : CX p c cc s m args own Ts Dg cA mcnt ad A) (hW : WP Dg mcnt ad (mE cA ad σ) H) {x : Int} (hx : 0 ≤ x ∧ x < 10) (hS : va_S A H0 H locs) {v : Int} (hdg : decode cc pc = .ok (.iastore, 1)) (kk : ∀ (H1 : Heap) (locs1 : List Loc), WP Dg mcnt ad (mE cA ad (ups σ 22 x 0 v)) H1 → va_S A H0 H1 locs1 → W p l e R s m args below meth c H1 locs1 cells slots Q (F0 m (pc + 1) ls rest)) : W p l e R s m args below meth c H locs cells slots Q (F0 m pc ls (.int (zi v) :: .int (zi x) :: .ref (ad 25 0) :: rest)) := by
  refine r_iast (n := 10) (g := fun j => σ 22 j 0) hC hW hS (by decide) (by decide) (fun j => ups σ 22 x 0 v 22 j 0) rfl (by decide) hx (fun j h8 h9 => ?_) rfl hdg (fun H1 locs1 hW1 hS1 => kk H1 locs1 (mE_ups 22 x 0 v (by first | rfl | (simp only [mow]; rw [if_pos (by omega)]) | (simp only [mow]; rw [if_neg (by omega)])) veq.rf hW1) hS1)
  show ups σ 22 x 0 v 22 j 0 = if j = x then v else σ 22 j 0
  unfold ups
  by_cases hj : j = x
  · rw [if_pos hj]
    exact if_pos ⟨rfl, by omega, by omega⟩
  · rw [if_neg hj]
    exact if_neg (fun z => hj (by have z1 := z.2.1; have z2 := z.2.2; omega))
theorem ma_asked (hC : CX p c cc s m args own Ts Dg cA mcnt ad A) (hW : WP Dg mcnt ad (mE cA ad σ) H) {x : Int} (a b : Int) (he : x = 100 * a + b) (ha : 0 ≤ a ∧ a < 10) (hb : 0 ≤ b ∧ b < 100) {v : Int} (hv : σ 21 a b = v) (hdg : decode cc pc = .ok (.baload, 1)) (kk : W p l e R s m args below meth c H locs cells slots Q (F0 m (pc + 1) ls (.int (zi v) :: rest))) : W p l e R s m args below meth c H locs cells slots Q (F0 m pc ls (.int (zi x) :: .ref (ad 26 0) :: rest)) := by
  refine r_zald (n := 1000) (g := fun j => σ 21 (j / 100) (j % 100)) hC hW (by decide) (by decide) rfl (by decide) (by omega) hdg ?_
  have e1 : x / 100 = a := by omega
  have e2 : x % 100 = b := by omega
  simp only [e1, e2, hv]
  exact kk
theorem ms_asked (hC : CX p c cc s m args own Ts Dg cA mcnt ad A) (hW : WP Dg mcnt ad (mE cA ad σ) H) {x : Int} (a b : Int) (he : x = 100 * a + b) (ha : 0 ≤ a ∧ a < 10) (hb : 0 ≤ b ∧ b < 100) (hS : va_S A H0 H locs) {v : Int} (hy : v = 0 ∨ v = 1) (hdg : decode cc pc = .ok (.bastore, 1)) (kk : ∀ (H1 : Heap) (locs1 : List Loc), WP Dg mcnt ad (mE cA ad (ups σ 21 a b v)) H1 → va_S A H0 H1 locs1 → W p l e R s m args below meth c H1 locs1 cells slots Q (F0 m (pc + 1) ls rest)) : W p l e R s m args below meth c H locs cells slots Q (F0 m pc ls (.int (zi v) :: .int (zi x) :: .ref (ad 26 0) :: rest)) := by
  refine r_zast (n := 1000) (g := fun j => σ 21 (j / 100) (j % 100)) hC hW hS (by decide) (by decide) (fun j => ups σ 21 a b v 21 (j / 100) (j % 100)) rfl (by decide) hy (by omega) (fun j h8 h9 => ?_) rfl hdg (fun H1 locs1 hW1 hS1 => kk H1 locs1 (mE_ups 21 a b v (by first | rfl | (simp only [mow]; rw [if_pos (by omega)]) | (simp only [mow]; rw [if_neg (by omega)])) veq.rf hW1) hS1)
  show ups σ 21 a b v 21 (j / 100) (j % 100) = if j = x then v else σ 21 (j / 100) (j % 100)
  unfold ups
  by_cases hj : j = x
  · rw [if_pos hj]
    exact if_pos ⟨rfl, by omega, by omega⟩
  · rw [if_neg hj]
    exact if_neg (fun z => hj (by have z1 := z.2.1; have z2 := z.2.2; omega))
end FIELDROWS
