section BASE10
variable {p : Program} {l : Launch} {e : Env} {R : Room} {s : State} {m : MethodId} {args : Array Value} {below : List Frame} {meth : Method} {c : Code} {H : Heap} {locs : List Loc} {cells slots : Nat} {Q : State → Prop} {cc : ByteArray} {pc : Nat} {ls : Array Slot} {rest : List Value} {own : String} {Ts : List Cond} {Dg : va_G} {cA : Nat → ClassId} {nL n b : Nat} {f g : Nat → va_E}
theorem fu_eq (f : Nat → va_E) (k : Nat) (e : va_E) : fu f k e k = e := if_pos rfl
theorem fu_ne {f : Nat → va_E} {k j : Nat} {e : va_E} (h : j ≠ k) : fu f k e j = f j := if_neg h
theorem fj_lo {f g : Nat → va_E} {n0 j : Nat} (h : j < n0) : fj f g n0 j = f j := if_pos h
theorem fj_at (f g : Nat → va_E) (n0 : Nat) : fj f g n0 n0 = g 0 := by
  unfold fj
  rw [if_neg (Nat.lt_irrefl _), Nat.sub_self]
theorem fj_hi {f g : Nat → va_E} {n0 : Nat} (q : Nat) : fj f g n0 (n0 + q) = g q := by
  unfold fj
  rw [if_neg (by omega), Nat.add_sub_cancel_left]
/-- one round of a constructor's loop: a cell made, its constructor, its place in the array j -/
theorem step_conv {P P' g : Nat → va_E} {e0 ej : va_E} {n0 n2 j : Nat} (h1 : ∀ q : Nat, q < n0 → q ≠ j → P q = P' q) (h2 : ej = P' j) (h3 : ∀ q : Nat, q < n2 → g q = P' (n0 + q)) : ∀ q : Nat, q < n0 + n2 → fu (fj (fu P n0 e0) g n0) j ej q = P' q := by
  intro q hq
  by_cases hj : q = j
  · subst hj
    rw [fu_eq]
    exact h2
  · rw [fu_ne hj]
    by_cases hl : q < n0
    · rw [fj_lo hl, fu_ne (by omega)]
      exact h1 q hl hj
    · obtain ⟨k, rfl⟩ : ∃ k, q = n0 + k := ⟨q - n0, by omega⟩
      rw [fj_hi]
      exact h3 k (by omega)
def rg (F : Nat → Nat) (r : Nat) : Nat → Option Nat := fun j => if j < r then some (F j) else none
theorem rg_up (F : Nat → Nat) (r : Nat) : va_up (rg F r) r (some (F r)) = rg F (r + 1) := by
  funext j
  unfold va_up rg
  by_cases h : j = r
  · subst h
    rw [if_pos rfl, if_pos (by omega)]
  · rw [if_neg h]
    by_cases h2 : j < r
    · rw [if_pos h2, if_pos (by omega)]
    · rw [if_neg h2, if_neg (by omega)]
theorem rg_0 (F : Nat → Nat) : (fun _ => none) = rg F 0 := by
  funext j
  unfold rg
  rw [if_neg (by omega)]
theorem va_at_refs {a N : Nat} {cK : ClassId} {g g' : Nat → Option Nat} (h : va_at Dg vwCl (a, .inl (cK, N, .inr (.inr (.inr (.inr g))))) H) (hg : ∀ j : Nat, j < N → g j = g' j) : va_at Dg vwCl (a, .inl (cK, N, .inr (.inr (.inr (.inr g'))))) H := by
  have h4 : H[a]? = some (vp_cell cK (N, .inr (.inr (.inr (.inr g))))) := h
  show H[a]? = some (vp_cell cK (N, .inr (.inr (.inr (.inr g')))))
  rw [h4, vp_cell_q, vp_cell_q]
  congr 1
  exact arrV_congr (fun j hj => by rw [hg j hj])
theorem h_iast {M j : Nat} {g : Int → Int} (g' : Int → Int) {x y : Int} (hC : CN p c cc s m meth args own Ts Dg cA nL b) (hj : j < n) (he : f j = .inl (cA 1, M, .inl (fun i => zi (g (i : Int))))) (hM : M ≤ 100000) (hx : 0 ≤ x ∧ x < M) (hg : ∀ i : Int, 0 ≤ i → i < M → g' i = if i = x then y else g i) (hH : HS Dg b n f H) (hS : va_S (NA b) s.heap H locs) (hdg : decode cc pc = .ok (.iastore, 1))
    (kk : ∀ (H1 : Heap) (locs1 : List Loc), HS Dg b n (fu f j (.inl (cA 1, M, .inl (fun i => zi (g' (i : Int)))))) H1 → va_S (NA b) s.heap H1 locs1 → W p l e R s m args below meth c H1 locs1 cells slots Q (F0 m (pc + 1) ls rest)) : W p l e R s m args below meth c H locs cells slots Q (F0 m pc ls (.int (zi y) :: .int (zi x) :: .ref (b + j) :: rest)) := by
  obtain ⟨hx9, hb, hown, hts, hK, -⟩ := hC
  have h0 := hH.2 j hj
  rw [he] at h0
  refine W.iast hx9 hb h0 ((hK.2 1 _ rfl).1 M (fun i => .int (zi (g (i : Int))))) (fun q => by cases q) (by show ¬ (zi x < 0 ∨ (arrV _ _ _).slots.size ≤ _); rw [arrV_size]; exact zi_in (n := M) hx.1 hx.2 (by omega)) rfl rfl hdg fun H1 e9 z oq => ?_
  refine kk H1 _ (hH.upd z oq ?_) (hS.put z oq (Nat.le_add_right _ _))
  show H1[b + j]? = some (vp_cell _ _)
  rw [e9]
  rw [vp_cell_i, vp_cell_i, arrV_store]
  congr 1
  exact arrV_congr (fun j hj => upd_zi hx (by omega) hg j hj)
end BASE10
section KF
variable {Dg : va_G} {cA : Nat → ClassId} {b : Nat} {H : Heap}
/-- the first object's cells from the 6th on -/
def kfE (cA : Nat → ClassId) (b q : Nat) : va_E := if invT q = 11 then .inl (cA 3, 4, .inr (.inr (.inr (.inr (pilR (b + q - 1)))))) else cE cA (adC b) σ0 (invT q) (invI q : Int)
theorem KF_at {t i : Nat} (ht : t < 20) (hi : (i : Int) < ccnt t) (h11 : t ≠ 11) : kfE cA b (off t i) = cE cA (adC b) σ0 t (i : Int) := by
  obtain ⟨-, e1, e2⟩ := off_all ht hi
  unfold kfE
  rw [e1, e2, if_neg h11]
theorem KF_11 {i : Nat} (hi : i < 6) : kfE cA b (34 + 18 * i) = .inl (cA 3, 4, .inr (.inr (.inr (.inr (pilR (b + (33 + 18 * i))))))) := by
  have e1 : invT (34 + 18 * i) = 11 := (off_11 i hi).2.1
  unfold kfE
  rw [if_pos e1, show b + (34 + 18 * i) - 1 = b + (33 + 18 * i) by omega]
theorem KF_reel {i : Nat} (hi : i < 32) : ∀ q : Nat, q < 3 → reelF cA (b + rb i) q = kfE cA b (rb i + q) := fun q hq => match q, hq with
  | 0, _ => by rw [show rb i + 0 = off 6 i from rfl, KF_at (by omega) (by show (i : Int) < 32; omega) (by omega)]; rfl
  | 1, _ => by rw [show rb i + 1 = off 7 i from rfl, KF_at (by omega) (by show (i : Int) < 32; omega) (by omega)]; rfl
  | 2, _ => by rw [show rb i + 2 = off 8 i from rfl, KF_at (by omega) (by show (i : Int) < 32; omega) (by omega)]; rfl
theorem rb_lo {i : Nat} (h : i < 8) : rb i = 6 + 3 * i := if_pos h
theorem rb_hi {i h : Nat} (hh : h < 4) : rb (8 + 4 * i + h) = 36 + 18 * i + 3 * h := by
  unfold rb
  rw [if_neg (by omega)]
  omega
theorem pb_lo {i : Nat} (h : i < 6) : pb i = 31 + 18 * i := if_pos h
theorem pb_hi (i : Nat) : pb (6 + i) = 139 + 3 * i := by
  unfold pb
  rw [if_neg (by omega)]
  omega
theorem KF_kio {i : Nat} (hi : i < 6) : ∀ q : Nat, q < 3 → kioF cA (b + (30 + 18 * i)) q = kfE cA b (30 + 18 * i + q) := fun q hq => match q, hq with
  | 0, _ => by
    rw [show 30 + 18 * i + 0 = off 9 i from rfl, KF_at (by omega) (by show (i : Int) < 6; omega) (by omega)]
    show _ = (Sum.inr (3, [Value.ref (b + pb i), .int (zi 0), .int (zi 0), .int (zi 0), .int (zi (-1))]) : va_E)
    rw [pb_lo hi, show b + (31 + 18 * i) = b + (30 + 18 * i) + 1 by omega]
    rfl
  | 1, _ => by
    rw [show 30 + 18 * i + 1 = off 18 i from by show _ = pb i; rw [pb_lo hi]; omega, KF_at (by omega) (by show (i : Int) < 12; omega) (by omega)]
    show _ = (Sum.inr (5, [Value.ref (b + (pb i + 1)), .int (zi 0)]) : va_E)
    rw [pb_lo hi, show b + (31 + 18 * i + 1) = b + (30 + 18 * i) + 2 by omega]
    rfl
  | 2, _ => by
    rw [show 30 + 18 * i + 2 = off 19 i from by show _ = pb i + 1; rw [pb_lo hi]; omega, KF_at (by omega) (by show (i : Int) < 12; omega) (by omega)]
    rfl
theorem KF_dev {i : Nat} (hi : i < 6) : ∀ q : Nat, q < 3 → devF cA (b + (138 + 3 * i)) q = kfE cA b (138 + 3 * i + q) := fun q hq => match q, hq with
  | 0, _ => by
    rw [show 138 + 3 * i + 0 = off 13 i from rfl, KF_at (by omega) (by show (i : Int) < 6; omega) (by omega)]
    show _ = (Sum.inr (2, [Value.ref (b + pb (6 + (i : Int)).toNat), .int (zi (-1))]) : va_E)
    rw [show (6 + (i : Int)).toNat = 6 + i by omega, pb_hi, show b + (139 + 3 * i) = b + (138 + 3 * i) + 1 by omega]
    rfl
  | 1, _ => by
    rw [show 138 + 3 * i + 1 = off 18 (6 + i) from by show _ = pb (6 + i); rw [pb_hi]; omega, KF_at (by omega) (by show ((6 + i : Nat) : Int) < 12; omega) (by omega)]
    show _ = (Sum.inr (5, [Value.ref (b + (pb (6 + i) + 1)), .int (zi 0)]) : va_E)
    rw [pb_hi, show b + (139 + 3 * i + 1) = b + (138 + 3 * i) + 2 by omega]
    rfl
  | 2, _ => by
    rw [show 138 + 3 * i + 2 = off 19 (6 + i) from by show _ = pb (6 + i) + 1; rw [pb_hi]; omega, KF_at (by omega) (by show ((6 + i : Nat) : Int) < 12; omega) (by omega)]
    rfl
theorem KF_vis {i : Nat} (hi : i < 10) : ∀ q : Nat, q < 4 → visF cA (b + (156 + 4 * i)) q = kfE cA b (156 + 4 * i + q) := fun q hq => match q, hq with
  | 0, _ => by
    rw [show 156 + 4 * i + 0 = off 14 i from rfl, KF_at (by omega) (by show (i : Int) < 10; omega) (by omega)]
    show _ = (Sum.inr (7, [Value.ref (b + (157 + 4 * i)), .ref (b + (158 + 4 * i)), .ref (b + (159 + 4 * i)), .int (zi (-1))]) : va_E)
    rw [show b + (157 + 4 * i) = b + (156 + 4 * i) + 1 by omega, show b + (158 + 4 * i) = b + (156 + 4 * i) + 2 by omega, show b + (159 + 4 * i) = b + (156 + 4 * i) + 3 by omega]
    rfl
  | 1, _ => by
    rw [show 156 + 4 * i + 1 = off 15 i from by show _ = 157 + 4 * i; omega, KF_at (by omega) (by show (i : Int) < 10; omega) (by omega)]
    rfl
  | 2, _ => by
    rw [show 156 + 4 * i + 2 = off 16 i from by show _ = 158 + 4 * i; omega, KF_at (by omega) (by show (i : Int) < 10; omega) (by omega)]
    rfl
  | 3, _ => by
    rw [show 156 + 4 * i + 3 = off 17 i from by show _ = 159 + 4 * i; omega, KF_at (by omega) (by show (i : Int) < 10; omega) (by omega)]
    rfl
theorem KF_pla {i : Nat} (hi : i < 6) : ∀ q : Nat, q < 15 → plaF cA (b + (33 + 18 * i)) q = kfE cA b (33 + 18 * i + q) := fun q hq => match q, hq with
  | 0, _ => by
    rw [show 33 + 18 * i + 0 = off 10 i from rfl, KF_at (by omega) (by show (i : Int) < 6; omega) (by omega)]
    show _ = (Sum.inr (4, [Value.ref (b + (34 + 18 * i)), .ref (b + (35 + 18 * i)), .int (zi 1), .int (zi 0), .int (zi 0), .int (zi (-1)), .int (zi 0), .int (zi 0), .int (zi (-1))]) : va_E)
    rw [show b + (34 + 18 * i) = b + (33 + 18 * i) + 1 by omega, show b + (35 + 18 * i) = b + (33 + 18 * i) + 2 by omega]
    rfl
  | 1, _ => by
    rw [show 33 + 18 * i + 1 = 34 + 18 * i by omega, KF_11 hi]
    rfl
  | 2, _ => by
    rw [show 33 + 18 * i + 2 = off 12 i from by show _ = 35 + 18 * i; omega, KF_at (by omega) (by show (i : Int) < 6; omega) (by omega)]
    rfl
  | k + 3, h => by
    show reelF cA (b + (33 + 18 * i) + 3 + 3 * (k / 3)) (k % 3) = _
    have hh : k / 3 < 4 := by omega
    have e := KF_reel (cA := cA) (b := b) (i := 8 + 4 * i + k / 3) (by omega) (k % 3) (by omega)
    rw [rb_hi hh] at e
    rw [show b + (33 + 18 * i) + 3 + 3 * (k / 3) = b + (36 + 18 * i + 3 * (k / 3)) by omega, e, show 36 + 18 * i + 3 * (k / 3) + k % 3 = 33 + 18 * i + (k + 3) by omega]
abbrev krO (b : Nat) : List Value := [.ref (b + 1), .ref (b + 2), .ref (b + 3), .ref (b + 4), .ref (b + 5), .int (zi 0), .int (zi 0), .int (zi 0), .long (zl 0)]
/-- the first object on its way: how far each row is filled -/
def PF (cA : Nat → ClassId) (b r k1 k2 d v : Nat) : Nat → va_E := fun q => match q with
  | 0 => .inr (8, krO b)
  | 1 => .inl (cA 3, 8, .inr (.inr (.inr (.inr (rg (fun j => b + (6 + 3 * j)) r)))))
  | 2 => .inl (cA 4, 6, .inr (.inr (.inr (.inr (rg (fun j => b + (30 + 18 * j)) k1)))))
  | 3 => .inl (cA 5, 6, .inr (.inr (.inr (.inr (rg (fun j => b + (33 + 18 * j)) k2)))))
  | 4 => .inl (cA 6, 6, .inr (.inr (.inr (.inr (rg (fun j => b + (138 + 3 * j)) d)))))
  | 5 => .inl (cA 7, 10, .inr (.inr (.inr (.inr (rg (fun j => b + (156 + 4 * j)) v)))))
  | q + 6 => kfE cA b (q + 6)
theorem PF_hi {r k1 k2 d v q : Nat} (h : 6 ≤ q) : PF cA b r k1 k2 d v q = kfE cA b q := by
  obtain ⟨k, rfl⟩ : ∃ k, q = k + 6 := ⟨q - 6, by omega⟩
  rfl
theorem wp_C (h : HS Dg b 196 (PF cA b 8 6 6 6 10) H) : WP Dg ccnt (adC b) (cE cA (adC b) σ0) H := by
  intro t i h0 h1
  have ht := ccnt_lt h0 h1
  obtain ⟨n, rfl⟩ := Int.eq_ofNat_of_zero_le h0
  obtain ⟨e0, e1, e2⟩ := off_all ht h1
  have q := h.2 (off t n) e0
  show va_at Dg vwCl (b + off t n, cE cA (adC b) σ0 t (n : Int)) H
  have rbs : ∀ j : Nat, adC b 6 (j : Int) = b + rb j := fun _ => rfl
  have hs : ∀ j N : Nat, j < N → ∀ F : Nat → Nat, rg F N j = some (F j) := fun j N h F => if_pos h
  by_cases h6 : t < 6
  · have hn : n = 0 := by
      have hc : ccnt t = 1 := match t, h6 with | 0, _ => rfl | 1, _ => rfl | 2, _ => rfl | 3, _ => rfl | 4, _ => rfl | 5, _ => rfl
      omega
    subst hn
    match t, h6 with
    | 0, _ => exact q
    | 1, _ => exact va_at_refs q (fun j hj => by rw [hs j 8 hj, rbs, rb_lo hj])
    | 2, _ => exact va_at_refs q (fun j hj => by rw [hs j 6 hj]; rfl)
    | 3, _ => exact va_at_refs q (fun j hj => by rw [hs j 6 hj]; rfl)
    | 4, _ => exact va_at_refs q (fun j hj => by rw [hs j 6 hj]; rfl)
    | 5, _ => exact va_at_refs q (fun j hj => by rw [hs j 10 hj]; rfl)
  · have hge : 6 ≤ off t n := by
      by_cases hx : off t n < 6
      · exfalso
        have e3 : invT (off t n) = off t n := if_pos hx
        omega
      · omega
    rw [PF_hi hge] at q
    by_cases h11 : t = 11
    · subst h11
      have hn : n < 6 := by have h9 : (n : Int) < 6 := h1; omega
      have e4 : off 11 n = 34 + 18 * n := rfl
      rw [e4] at q ⊢
      rw [KF_11 hn] at q
      refine va_at_refs q (fun j hj => ?_)
      have e5 : adC b 6 (8 + 4 * (n : Int) + (j : Int)) = b + rb (8 + 4 * n + j) := by
        show b + rb (8 + 4 * (n : Int) + (j : Int)).toNat = _
        rw [show (8 + 4 * (n : Int) + (j : Int)).toNat = 8 + 4 * n + j by omega]
      rw [e5, rb_hi hj]
      match j, hj with
      | 0, _ => show some (b + (33 + 18 * n) + 3) = _; rw [show b + (36 + 18 * n + 3 * 0) = b + (33 + 18 * n) + 3 by omega]
      | 1, _ => show some (b + (33 + 18 * n) + 6) = _; rw [show b + (36 + 18 * n + 3 * 1) = b + (33 + 18 * n) + 6 by omega]
      | 2, _ => show some (b + (33 + 18 * n) + 9) = _; rw [show b + (36 + 18 * n + 3 * 2) = b + (33 + 18 * n) + 9 by omega]
      | 3, _ => show some (b + (33 + 18 * n) + 12) = _; rw [show b + (36 + 18 * n + 3 * 3) = b + (33 + 18 * n) + 12 by omega]
    · rw [KF_at ht h1 h11] at q
      exact q
end KF
