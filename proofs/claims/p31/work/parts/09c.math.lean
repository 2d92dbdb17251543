section MATH13
/-- the numbers of a new object -/
def σ0 : St := fun t _ _ => if t = 5 then 1 else if t = 8 ∨ t = 11 ∨ t = 15 ∨ t = 18 ∨ t = 22 ∨ t = 25 then -1 else 0
def rb (i : Nat) : Nat := if i < 8 then 6 + 3 * i else 36 + 18 * ((i - 8) / 4) + 3 * ((i - 8) % 4)
def pb (i : Nat) : Nat := if i < 6 then 31 + 18 * i else 139 + 3 * (i - 6)
def off : Nat → Nat → Nat := fun t i => match t with
  | 6 => rb i
  | 7 => rb i + 1
  | 8 => rb i + 2
  | 9 => 30 + 18 * i
  | 10 => 33 + 18 * i
  | 11 => 34 + 18 * i
  | 12 => 35 + 18 * i
  | 13 => 138 + 3 * i
  | 14 => 156 + 4 * i
  | 15 => 157 + 4 * i
  | 16 => 158 + 4 * i
  | 17 => 159 + 4 * i
  | 18 => pb i
  | 19 => pb i + 1
  | t => t
def adC (b : Nat) : Nat → Int → Nat := fun t i => b + off t i.toNat
def invT (k : Nat) : Nat := if k < 6 then k else if k < 30 then 6 + (k - 6) % 3 else if k < 138 then (if (k - 30) % 18 = 0 then 9 else if (k - 30) % 18 = 1 then 18 else if (k - 30) % 18 = 2 then 19 else if (k - 30) % 18 = 3 then 10 else if (k - 30) % 18 = 4 then 11 else if (k - 30) % 18 = 5 then 12 else 6 + ((k - 30) % 18 - 6) % 3) else if k < 156 then (if (k - 138) % 3 = 0 then 13 else if (k - 138) % 3 = 1 then 18 else 19) else 14 + (k - 156) % 4
def invI (k : Nat) : Nat := if k < 6 then 0 else if k < 30 then (k - 6) / 3 else if k < 138 then (if (k - 30) % 18 < 6 then (k - 30) / 18 else 8 + 4 * ((k - 30) / 18) + ((k - 30) % 18 - 6) / 3) else if k < 156 then (if (k - 138) % 3 = 0 then (k - 138) / 3 else 6 + (k - 138) / 3) else (k - 156) / 4
theorem off_0 (i : Nat) (hi : i < 1) : off 0 i < 196 ∧ invT (off 0 i) = 0 ∧ invI (off 0 i) = i := by
  have h : i = 0 := by omega
  subst h
  decide
theorem off_1 (i : Nat) (hi : i < 1) : off 1 i < 196 ∧ invT (off 1 i) = 1 ∧ invI (off 1 i) = i := by
  have h : i = 0 := by omega
  subst h
  decide
theorem off_2 (i : Nat) (hi : i < 1) : off 2 i < 196 ∧ invT (off 2 i) = 2 ∧ invI (off 2 i) = i := by
  have h : i = 0 := by omega
  subst h
  decide
theorem off_3 (i : Nat) (hi : i < 1) : off 3 i < 196 ∧ invT (off 3 i) = 3 ∧ invI (off 3 i) = i := by
  have h : i = 0 := by omega
  subst h
  decide
theorem off_4 (i : Nat) (hi : i < 1) : off 4 i < 196 ∧ invT (off 4 i) = 4 ∧ invI (off 4 i) = i := by
  have h : i = 0 := by omega
  subst h
  decide
theorem off_5 (i : Nat) (hi : i < 1) : off 5 i < 196 ∧ invT (off 5 i) = 5 ∧ invI (off 5 i) = i := by
  have h : i = 0 := by omega
  subst h
  decide
theorem off_6 (i : Nat) (hi : i < 32) : off 6 i < 196 ∧ invT (off 6 i) = 6 ∧ invI (off 6 i) = i := by
  show rb i < 196 ∧ invT (rb i) = 6 ∧ invI (rb i) = i
  unfold rb
  by_cases h : i < 8
  · rw [if_pos h]
    refine ⟨by omega, ?_, ?_⟩
    · unfold invT; rw [if_neg (by omega), if_pos (by omega)]; omega
    · unfold invI; rw [if_neg (by omega), if_pos (by omega)]; omega
  · rw [if_neg h]
    refine ⟨by omega, ?_, ?_⟩
    · unfold invT; rw [if_neg (by omega), if_neg (by omega), if_pos (by omega), if_neg (by omega), if_neg (by omega), if_neg (by omega), if_neg (by omega), if_neg (by omega), if_neg (by omega)]; omega
    · unfold invI; rw [if_neg (by omega), if_neg (by omega), if_pos (by omega), if_neg (by omega)]; omega
theorem off_7 (i : Nat) (hi : i < 32) : off 7 i < 196 ∧ invT (off 7 i) = 7 ∧ invI (off 7 i) = i := by
  show rb i + 1 < 196 ∧ invT (rb i + 1) = 7 ∧ invI (rb i + 1) = i
  unfold rb
  by_cases h : i < 8
  · rw [if_pos h]
    refine ⟨by omega, ?_, ?_⟩
    · unfold invT; rw [if_neg (by omega), if_pos (by omega)]; omega
    · unfold invI; rw [if_neg (by omega), if_pos (by omega)]; omega
  · rw [if_neg h]
    refine ⟨by omega, ?_, ?_⟩
    · unfold invT; rw [if_neg (by omega), if_neg (by omega), if_pos (by omega), if_neg (by omega), if_neg (by omega), if_neg (by omega), if_neg (by omega), if_neg (by omega), if_neg (by omega)]; omega
    · unfold invI; rw [if_neg (by omega), if_neg (by omega), if_pos (by omega), if_neg (by omega)]; omega
theorem off_8 (i : Nat) (hi : i < 32) : off 8 i < 196 ∧ invT (off 8 i) = 8 ∧ invI (off 8 i) = i := by
  show rb i + 2 < 196 ∧ invT (rb i + 2) = 8 ∧ invI (rb i + 2) = i
  unfold rb
  by_cases h : i < 8
  · rw [if_pos h]
    refine ⟨by omega, ?_, ?_⟩
    · unfold invT; rw [if_neg (by omega), if_pos (by omega)]; omega
    · unfold invI; rw [if_neg (by omega), if_pos (by omega)]; omega
  · rw [if_neg h]
    refine ⟨by omega, ?_, ?_⟩
    · unfold invT; rw [if_neg (by omega), if_neg (by omega), if_pos (by omega), if_neg (by omega), if_neg (by omega), if_neg (by omega), if_neg (by omega), if_neg (by omega), if_neg (by omega)]; omega
    · unfold invI; rw [if_neg (by omega), if_neg (by omega), if_pos (by omega), if_neg (by omega)]; omega
theorem off_9 (i : Nat) (hi : i < 6) : off 9 i < 196 ∧ invT (off 9 i) = 9 ∧ invI (off 9 i) = i := by
  show 30 + 18 * i < 196 ∧ invT (30 + 18 * i) = 9 ∧ invI (30 + 18 * i) = i
  refine ⟨by omega, ?_, ?_⟩
  · unfold invT; rw [if_neg (by omega), if_neg (by omega), if_pos (by omega), if_pos (by omega)]
  · unfold invI; rw [if_neg (by omega), if_neg (by omega), if_pos (by omega), if_pos (by omega)]; omega
theorem off_10 (i : Nat) (hi : i < 6) : off 10 i < 196 ∧ invT (off 10 i) = 10 ∧ invI (off 10 i) = i := by
  show 33 + 18 * i < 196 ∧ invT (33 + 18 * i) = 10 ∧ invI (33 + 18 * i) = i
  refine ⟨by omega, ?_, ?_⟩
  · unfold invT; rw [if_neg (by omega), if_neg (by omega), if_pos (by omega), if_neg (by omega), if_neg (by omega), if_neg (by omega), if_pos (by omega)]
  · unfold invI; rw [if_neg (by omega), if_neg (by omega), if_pos (by omega), if_pos (by omega)]; omega
theorem off_11 (i : Nat) (hi : i < 6) : off 11 i < 196 ∧ invT (off 11 i) = 11 ∧ invI (off 11 i) = i := by
  show 34 + 18 * i < 196 ∧ invT (34 + 18 * i) = 11 ∧ invI (34 + 18 * i) = i
  refine ⟨by omega, ?_, ?_⟩
  · unfold invT; rw [if_neg (by omega), if_neg (by omega), if_pos (by omega), if_neg (by omega), if_neg (by omega), if_neg (by omega), if_neg (by omega), if_pos (by omega)]
  · unfold invI; rw [if_neg (by omega), if_neg (by omega), if_pos (by omega), if_pos (by omega)]; omega
theorem off_12 (i : Nat) (hi : i < 6) : off 12 i < 196 ∧ invT (off 12 i) = 12 ∧ invI (off 12 i) = i := by
  show 35 + 18 * i < 196 ∧ invT (35 + 18 * i) = 12 ∧ invI (35 + 18 * i) = i
  refine ⟨by omega, ?_, ?_⟩
  · unfold invT; rw [if_neg (by omega), if_neg (by omega), if_pos (by omega), if_neg (by omega), if_neg (by omega), if_neg (by omega), if_neg (by omega), if_neg (by omega), if_pos (by omega)]
  · unfold invI; rw [if_neg (by omega), if_neg (by omega), if_pos (by omega), if_pos (by omega)]; omega
theorem off_13 (i : Nat) (hi : i < 6) : off 13 i < 196 ∧ invT (off 13 i) = 13 ∧ invI (off 13 i) = i := by
  show 138 + 3 * i < 196 ∧ invT (138 + 3 * i) = 13 ∧ invI (138 + 3 * i) = i
  refine ⟨by omega, ?_, ?_⟩
  · unfold invT; rw [if_neg (by omega), if_neg (by omega), if_neg (by omega), if_pos (by omega), if_pos (by omega)]
  · unfold invI; rw [if_neg (by omega), if_neg (by omega), if_neg (by omega), if_pos (by omega), if_pos (by omega)]; omega
theorem off_14 (i : Nat) (hi : i < 10) : off 14 i < 196 ∧ invT (off 14 i) = 14 ∧ invI (off 14 i) = i := by
  show 156 + 4 * i < 196 ∧ invT (156 + 4 * i) = 14 ∧ invI (156 + 4 * i) = i
  refine ⟨by omega, ?_, ?_⟩
  · unfold invT; rw [if_neg (by omega), if_neg (by omega), if_neg (by omega), if_neg (by omega)]; omega
  · unfold invI; rw [if_neg (by omega), if_neg (by omega), if_neg (by omega), if_neg (by omega)]; omega
theorem off_15 (i : Nat) (hi : i < 10) : off 15 i < 196 ∧ invT (off 15 i) = 15 ∧ invI (off 15 i) = i := by
  show 157 + 4 * i < 196 ∧ invT (157 + 4 * i) = 15 ∧ invI (157 + 4 * i) = i
  refine ⟨by omega, ?_, ?_⟩
  · unfold invT; rw [if_neg (by omega), if_neg (by omega), if_neg (by omega), if_neg (by omega)]; omega
  · unfold invI; rw [if_neg (by omega), if_neg (by omega), if_neg (by omega), if_neg (by omega)]; omega
theorem off_16 (i : Nat) (hi : i < 10) : off 16 i < 196 ∧ invT (off 16 i) = 16 ∧ invI (off 16 i) = i := by
  show 158 + 4 * i < 196 ∧ invT (158 + 4 * i) = 16 ∧ invI (158 + 4 * i) = i
  refine ⟨by omega, ?_, ?_⟩
  · unfold invT; rw [if_neg (by omega), if_neg (by omega), if_neg (by omega), if_neg (by omega)]; omega
  · unfold invI; rw [if_neg (by omega), if_neg (by omega), if_neg (by omega), if_neg (by omega)]; omega
theorem off_17 (i : Nat) (hi : i < 10) : off 17 i < 196 ∧ invT (off 17 i) = 17 ∧ invI (off 17 i) = i := by
  show 159 + 4 * i < 196 ∧ invT (159 + 4 * i) = 17 ∧ invI (159 + 4 * i) = i
  refine ⟨by omega, ?_, ?_⟩
  · unfold invT; rw [if_neg (by omega), if_neg (by omega), if_neg (by omega), if_neg (by omega)]; omega
  · unfold invI; rw [if_neg (by omega), if_neg (by omega), if_neg (by omega), if_neg (by omega)]; omega
theorem off_18 (i : Nat) (hi : i < 12) : off 18 i < 196 ∧ invT (off 18 i) = 18 ∧ invI (off 18 i) = i := by
  show pb i < 196 ∧ invT (pb i) = 18 ∧ invI (pb i) = i
  unfold pb
  by_cases h : i < 6
  · rw [if_pos h]
    refine ⟨by omega, ?_, ?_⟩
    · unfold invT; rw [if_neg (by omega), if_neg (by omega), if_pos (by omega), if_neg (by omega), if_pos (by omega)]
    · unfold invI; rw [if_neg (by omega), if_neg (by omega), if_pos (by omega), if_pos (by omega)]; omega
  · rw [if_neg h]
    refine ⟨by omega, ?_, ?_⟩
    · unfold invT; rw [if_neg (by omega), if_neg (by omega), if_neg (by omega), if_pos (by omega), if_neg (by omega), if_pos (by omega)]
    · unfold invI; rw [if_neg (by omega), if_neg (by omega), if_neg (by omega), if_pos (by omega), if_neg (by omega)]; omega
theorem off_19 (i : Nat) (hi : i < 12) : off 19 i < 196 ∧ invT (off 19 i) = 19 ∧ invI (off 19 i) = i := by
  show pb i + 1 < 196 ∧ invT (pb i + 1) = 19 ∧ invI (pb i + 1) = i
  unfold pb
  by_cases h : i < 6
  · rw [if_pos h]
    refine ⟨by omega, ?_, ?_⟩
    · unfold invT; rw [if_neg (by omega), if_neg (by omega), if_pos (by omega), if_neg (by omega), if_neg (by omega), if_pos (by omega)]
    · unfold invI; rw [if_neg (by omega), if_neg (by omega), if_pos (by omega), if_pos (by omega)]; omega
  · rw [if_neg h]
    refine ⟨by omega, ?_, ?_⟩
    · unfold invT; rw [if_neg (by omega), if_neg (by omega), if_neg (by omega), if_pos (by omega), if_neg (by omega), if_neg (by omega)]
    · unfold invI; rw [if_neg (by omega), if_neg (by omega), if_neg (by omega), if_pos (by omega), if_neg (by omega)]; omega
theorem off_all {t i : Nat} (ht : t < 20) (hi : (i : Int) < ccnt t) : off t i < 196 ∧ invT (off t i) = t ∧ invI (off t i) = i := by
  match t, ht with
  | 0, _ => exact off_0 i (by have h : (i : Int) < 1 := hi; omega)
  | 1, _ => exact off_1 i (by have h : (i : Int) < 1 := hi; omega)
  | 2, _ => exact off_2 i (by have h : (i : Int) < 1 := hi; omega)
  | 3, _ => exact off_3 i (by have h : (i : Int) < 1 := hi; omega)
  | 4, _ => exact off_4 i (by have h : (i : Int) < 1 := hi; omega)
  | 5, _ => exact off_5 i (by have h : (i : Int) < 1 := hi; omega)
  | 6, _ => exact off_6 i (by have h : (i : Int) < 32 := hi; omega)
  | 7, _ => exact off_7 i (by have h : (i : Int) < 32 := hi; omega)
  | 8, _ => exact off_8 i (by have h : (i : Int) < 32 := hi; omega)
  | 9, _ => exact off_9 i (by have h : (i : Int) < 6 := hi; omega)
  | 10, _ => exact off_10 i (by have h : (i : Int) < 6 := hi; omega)
  | 11, _ => exact off_11 i (by have h : (i : Int) < 6 := hi; omega)
  | 12, _ => exact off_12 i (by have h : (i : Int) < 6 := hi; omega)
  | 13, _ => exact off_13 i (by have h : (i : Int) < 6 := hi; omega)
  | 14, _ => exact off_14 i (by have h : (i : Int) < 10 := hi; omega)
  | 15, _ => exact off_15 i (by have h : (i : Int) < 10 := hi; omega)
  | 16, _ => exact off_16 i (by have h : (i : Int) < 10 := hi; omega)
  | 17, _ => exact off_17 i (by have h : (i : Int) < 10 := hi; omega)
  | 18, _ => exact off_18 i (by have h : (i : Int) < 12 := hi; omega)
  | 19, _ => exact off_19 i (by have h : (i : Int) < 12 := hi; omega)
theorem adC_WI (b : Nat) : WI ccnt (adC b) := by
  intro t i t' i' h0 h1 h0' h1' he
  have ht := ccnt_lt h0 h1
  have ht' := ccnt_lt h0' h1'
  obtain ⟨n, rfl⟩ := Int.eq_ofNat_of_zero_le h0
  obtain ⟨n', rfl⟩ := Int.eq_ofNat_of_zero_le h0'
  have he : b + off t n = b + off t' n' := he
  have he : off t n = off t' n' := by omega
  obtain ⟨-, e1, e2⟩ := off_all ht h1
  obtain ⟨-, e3, e4⟩ := off_all ht' h1'
  rw [he] at e1 e2
  exact ⟨e1.symm.trans e3, by rw [← e2, e4]⟩
theorem adC_rng (b : Nat) {t : Nat} {i : Int} (h0 : 0 ≤ i) (h1 : i < ccnt t) : b ≤ adC b t i ∧ adC b t i < b + 196 := by
  have ht := ccnt_lt h0 h1
  obtain ⟨n, rfl⟩ := Int.eq_ofNat_of_zero_le h0
  have h := (off_all ht h1).1
  have e : adC b t (n : Int) = b + off t n := rfl
  rw [e]
  omega
theorem held0 (p : Int) (hp : 0 ≤ p) : held σ0 p = 0 := by
  have e : (fun d => decide (σ0 18 d 0 = p)) = fun _ => false := by
    funext d
    rw [decide_eq_false_iff_not]
    show ¬ (-1 : Int) = p
    omega
  unfold held
  rw [e]
  rfl
theorem mem0 (w q : Int) : ¬ mem σ0 w q := by
  rintro ⟨j, h0, h1, -⟩
  have h1 : j < 0 := h1
  omega
theorem Inv0 : Inv 0 0 σ0 := by
  refine ⟨?_, ?_, ?_, ?_, ?_, ?_, ?_, ?_, ?_, ?_, ?_, ?_, ?_, ?_, ?_⟩
  · show (0 ≤ (0 : Int) ∧ (0 : Int) ≤ 8) ∧ (0 ≤ (0 : Int) ∧ (0 : Int) ≤ 6) ∧ (0 ≤ (0 : Int) ∧ (0 : Int) ≤ 10)
    omega
  · intro r _ _
    refine ⟨by show 0 ≤ (0 : Int) ∧ (0 : Int) ≤ 20; omega, fun j h0 _ => ⟨by show 0 ≤ (0 : Int) ∧ (0 : Int) < 65536; omega, fun z => ?_⟩⟩
    have z : j < 0 := z
    omega
  · intro p h _ _ _ _
    show 0 ≤ (0 : Int) ∧ (0 : Int) ≤ 20
    omega
  · intro p _ _
    exact ⟨by show 0 ≤ (1 : Int) ∧ (1 : Int) ≤ 4; omega, fun z => by have z : (0 : Int) = 1 := z; omega⟩
  · intro p _ _
    exact ⟨Or.inl rfl, by show -1 ≤ (-1 : Int); omega, by show (-1 : Int) < 6; omega, by show (-1 : Int) < 0; omega, fun _ => rfl⟩
  · intro p _ _
    show 0 ≤ (0 : Int) ∧ (0 : Int) ≤ 99
    omega
  · intro p _ _
    show 0 ≤ (0 : Int) ∧ (0 : Int) ≤ 19
    omega
  · intro p _ _
    exact ⟨by show -1 ≤ (-1 : Int) ∧ (-1 : Int) ≤ 5; omega, by show -1 ≤ (-1 : Int) ∧ (-1 : Int) ≤ 5; omega, fun _ => rfl⟩
  · intro p _ _
    exact ⟨by show 0 ≤ (0 : Int) ∧ (0 : Int) < 8; omega, fun z => by have z : (0 : Int) = 1 := z; omega⟩
  · intro k _ _
    exact ⟨Or.inl rfl, Or.inl rfl, fun z => by have z : (0 : Int) = 1 := z; omega, by show 0 ≤ (0 : Int) ∧ (0 : Int) ≤ 5; omega, fun _ => ⟨rfl, rfl⟩, fun _ => ⟨rfl, by show (0 : Int) ≤ 4; omega⟩, by show -1 ≤ (-1 : Int) ∧ (-1 : Int) ≤ 99; omega, by show 0 ≤ (0 : Int) ∧ (0 : Int) ≤ 0; omega⟩
  · intro w _ _
    refine ⟨by show 0 ≤ (0 : Int) ∧ (0 : Int) ≤ 6; omega, fun j h0 h1 => ?_, fun i j h0 h1 h2 h3 h4 => ?_⟩
    · show 0 ≤ (0 : Int) ∧ (0 : Int) ≤ 5
      omega
    · have h1 : i < 0 := h1
      omega
  · intro w q h0 _ _ _
    refine ⟨fun z => absurd z (mem0 w q), fun z => ?_⟩
    have z : (-1 : Int) = w := z
    omega
  · intro d q h0 _ _ _
    refine ⟨fun z => absurd z (mem0 _ q), fun z => ?_⟩
    have z : (0 : Int) = 1 := z.1
    omega
  · refine ⟨fun d _ _ => ⟨by show -1 ≤ (-1 : Int) ∧ (-1 : Int) ≤ 5; omega, fun z => absurd rfl z⟩, fun p _ _ z => ?_⟩
    have z : (0 : Int) = 1 := z
    omega
  · intro v _ _
    refine ⟨⟨by show -1 ≤ (-1 : Int); omega, by show (-1 : Int) < 6; omega, by show (-1 : Int) < 0; omega⟩, fun s _ _ => ⟨by show 0 ≤ (0 : Int); omega, by show 0 ≤ (0 : Int) ∧ (0 : Int) ≤ 0; omega, by show (0 : Int) ≤ 0 + 1; omega, Or.inl rfl, fun z => ?_⟩⟩
    have z : (0 : Int) = 1 := z
    omega
end MATH13
