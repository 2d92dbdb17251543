section BASE0
/-- whole numbers as the machine's ints and longs -/
def zi (x : Int) : Int32 := Int32.ofInt x
def zl (x : Int) : Int64 := Int64.ofInt x
abbrev sm (x : Int) : Prop := -2147483648 ≤ x ∧ x < 2147483648
theorem zi_add (a b : Int) : zi a + zi b = zi (a + b) := (Int32.ofInt_add a b).symm
theorem zi_sub (a b : Int) : zi a - zi b = zi (a - b) := (Int32.ofInt_sub a b).symm
theorem zi_mul (a b : Int) : zi a * zi b = zi (a * b) := (Int32.ofInt_mul a b).symm
theorem zl_add (a b : Int) : zl a + zl b = zl (a + b) := (Int64.ofInt_add a b).symm
theorem zi_of (x : Int32) : zi x.toInt = x := Int32.ofInt_toInt x
theorem zi_int {x : Int} (h : sm x) : (zi x).toInt = x := Int32.toInt_ofInt_of_le (by have := h.1; omega) (by have := h.2; omega)
theorem z0 : (0 : Int32) = zi 0 := by decide
theorem zi_lt {a b : Int} (ha : sm a) (hb : sm b) : zi a < zi b ↔ a < b := by rw [Int32.lt_iff_toInt_lt, zi_int ha, zi_int hb]
theorem zi_le {a b : Int} (ha : sm a) (hb : sm b) : zi a ≤ zi b ↔ a ≤ b := by rw [Int32.le_iff_toInt_le, zi_int ha, zi_int hb]
theorem zi_eq {a b : Int} (ha : sm a) (hb : sm b) : zi a = zi b ↔ a = b := by rw [← Int32.toInt_inj, zi_int ha, zi_int hb]
theorem zi_rng (x : Int32) : sm x.toInt := ⟨by have := Int32.le_toInt x; omega, by have := Int32.toInt_lt x; omega⟩
theorem zi_cl {e : Int} (h0 : 0 ≤ e) (h1 : e < 2147483648) : (zi e).toNatClampNeg = e.toNat := Int32.toNatClampNeg_ofInt_of_le (by omega) (by omega)
theorem zi_in {e : Int} {n : Nat} (h0 : 0 ≤ e) (h1 : e < n) (hn : n < 2147483648) : vp_in (zi e) n := vp_in_iff.mpr (by rw [zi_int ⟨by omega, by omega⟩]; exact ⟨h0, h1⟩)
/-- numbers by tag, place, slot -/
abbrev St : Type := Nat → Int → Int → Int
def ups (σ : St) (t : Nat) (i j v : Int) : St := fun t' i' j' => if t' = t ∧ i' = i ∧ j' = j then v else σ t' i' j'
theorem ups_eq (σ : St) (t : Nat) (i j v : Int) : ups σ t i j v t i j = v := by simp [ups]
theorem ups_t (σ : St) {t t' : Nat} (h : t' ≠ t) (i j v i' j' : Int) : ups σ t i j v t' i' j' = σ t' i' j' := by simp [ups, h]
theorem ups_i (σ : St) (t t' : Nat) {i i' : Int} (h : i' ≠ i) (j v j' : Int) : ups σ t i j v t' i' j' = σ t' i' j' := by simp [ups, h]
theorem ups_j (σ : St) (t t' : Nat) {j j' : Int} (h : j' ≠ j) (i v i' : Int) : ups σ t i j v t' i' j' = σ t' i' j' := by simp [ups, h]
def tyL (cA : Nat → ClassId) : List (ClassId × FieldType) := [(cA 0, .char), (cA 1, .int), (cA 2, .boolean), (cA 3, .object "KioskReel$Reel"), (cA 4, .object "KioskReel$Kiosk"), (cA 5, .object "KioskReel$Player"), (cA 6, .object "KioskReel$Device"), (cA 7, .object "KioskReel$Visitor")]
/-- a world: the cell of tag t, place i lies at ad t i and holds E t i, for i below cnt t -/
def WP (Dg : va_G) (cnt : Nat → Int) (ad : Nat → Int → Nat) (E : Nat → Int → va_E) (H : Heap) : Prop := ∀ (t : Nat) (i : Int), 0 ≤ i → i < cnt t → va_at Dg vwCl (ad t i, E t i) H
def WI (cnt : Nat → Int) (ad : Nat → Int → Nat) : Prop := ∀ (t : Nat) (i : Int) (t' : Nat) (i' : Int), 0 ≤ i → i < cnt t → 0 ≤ i' → i' < cnt t' → ad t i = ad t' i' → t = t' ∧ i = i'
def WA (cnt : Nat → Int) (ad : Nat → Int → Nat) (sz : Nat) : Nat → Prop := fun q => (∃ (t : Nat) (i : Int), 0 ≤ i ∧ i < cnt t ∧ q = ad t i) ∨ sz ≤ q
def upE (E : Nat → Int → va_E) (t : Nat) (i : Int) (e : va_E) : Nat → Int → va_E := fun t' i' => if t' = t ∧ i' = i then e else E t' i'
theorem WP.one {Dg : va_G} {cnt : Nat → Int} {ad : Nat → Int → Nat} {E : Nat → Int → va_E} {H : Heap} (h : WP Dg cnt ad E H) {t : Nat} {i : Int} {e : va_E} (h0 : 0 ≤ i) (h1 : i < cnt t) (he : E t i = e) : va_P Dg vwCl [(ad t i, e)] H := by
  intro k q hk
  have hz : k < 1 := (List.getElem?_eq_some_iff.mp hk).1
  rw [show k = 0 by omega] at hk
  cases hk
  rw [← he]
  exact h t i h0 h1
theorem WP.set {Dg : va_G} {cnt : Nat → Int} {ad : Nat → Int → Nat} {E : Nat → Int → va_E} {H H1 : Heap} (h : WP Dg cnt ad E H) (hI : WI cnt ad) {t : Nat} {i : Int} {e : va_E} (h0 : 0 ≤ i) (h1 : i < cnt t) (he : va_at Dg vwCl (ad t i, e) H1) (oq : ∀ q : Nat, q ≠ ad t i → H1[q]? = H[q]?) : WP Dg cnt ad (upE E t i e) H1 := by
  intro t' i' h0' h1'
  unfold upE
  by_cases hx : t' = t ∧ i' = i
  · obtain ⟨rfl, rfl⟩ := hx
    rw [if_pos ⟨rfl, rfl⟩]
    exact he
  · rw [if_neg hx]
    exact (h t' i' h0' h1').kept (oq _ (fun z => hx (hI t' i' t i h0' h1' h0 h1 z)))
theorem WP.kept {Dg : va_G} {cnt : Nat → Int} {ad : Nat → Int → Nat} {E : Nat → Int → va_E} {H H1 : Heap} (h : WP Dg cnt ad E H) (hq : ∀ (t : Nat) (i : Int), 0 ≤ i → i < cnt t → H1[ad t i]? = H[ad t i]?) : WP Dg cnt ad E H1 := fun t i h0 h1 => (h t i h0 h1).kept (hq t i h0 h1)
theorem WP.lt {Dg : va_G} {cnt : Nat → Int} {ad : Nat → Int → Nat} {E : Nat → Int → va_E} {H : Heap} (h : WP Dg cnt ad E H) {t : Nat} {i : Int} (h0 : 0 ≤ i) (h1 : i < cnt t) : ad t i < H.size := (h t i h0 h1).lt
/-- what a method's walk stands on -/
def CX (p : Program) (c : Code) (cc : ByteArray) (s : State) (m : MethodId) (args : Array Value) (own : String) (Ts : List Cond) (Dg : va_G) (cA : Nat → ClassId) (cnt : Nat → Int) (ad : Nat → Int → Nat) (A : Nat → Prop) : Prop :=
  p.tables.exec = Jvm.exec ∧ c.code = cc ∧ s.vm.findClass own = some m.cls ∧ (∀ w ∈ Ts, w.before args s = true) ∧ va_K Dg vwCl (tyL cA) s ∧ WI cnt ad ∧ ∀ (t : Nat) (i : Int), 0 ≤ i → i < cnt t → A (ad t i)
end BASE0
section BASE1
variable {p : Program} {l : Launch} {e : Env} {R : Room} {s : State} {m : MethodId} {args : Array Value} {below : List Frame} {meth : Method} {c : Code} {H H0 : Heap} {locs : List Loc} {cells slots : Nat} {Q : State → Prop} {cc : ByteArray} {pc : Nat} {ls : Array Slot} {rest : List Value} {own : String} {Ts : List Cond} {Dg : va_G} {cA : Nat → ClassId} {cnt : Nat → Int} {ad : Nat → Int → Nat} {A : Nat → Prop} {E E' : Nat → Int → va_E}
-- arithmetic
theorem k_iadd (hC : CX p c cc s m args own Ts Dg cA cnt ad A) {a b : Int} (hdg : decode cc pc = .ok (.iadd, 1)) (kk : W p l e R s m args below meth c H locs cells slots Q (F0 m (pc + 1) ls (.int (zi (a + b)) :: rest))) : W p l e R s m args below meth c H locs cells slots Q (F0 m pc ls (.int (zi b) :: .int (zi a) :: rest)) :=
  lv_iadd hC.1 hC.2.1 hdg (by rw [zi_add]; exact kk)
theorem k_isub (hC : CX p c cc s m args own Ts Dg cA cnt ad A) {a b : Int} (hdg : decode cc pc = .ok (.isub, 1)) (kk : W p l e R s m args below meth c H locs cells slots Q (F0 m (pc + 1) ls (.int (zi (a - b)) :: rest))) : W p l e R s m args below meth c H locs cells slots Q (F0 m pc ls (.int (zi b) :: .int (zi a) :: rest)) :=
  lv_isub hC.1 hC.2.1 hdg (by rw [zi_sub]; exact kk)
theorem k_imul (hC : CX p c cc s m args own Ts Dg cA cnt ad A) {a b : Int} (hdg : decode cc pc = .ok (.imul, 1)) (kk : W p l e R s m args below meth c H locs cells slots Q (F0 m (pc + 1) ls (.int (zi (a * b)) :: rest))) : W p l e R s m args below meth c H locs cells slots Q (F0 m pc ls (.int (zi b) :: .int (zi a) :: rest)) :=
  lv_imul hC.1 hC.2.1 hdg (by rw [zi_mul]; exact kk)
theorem k_ladd (hC : CX p c cc s m args own Ts Dg cA cnt ad A) {a b : Int} (hdg : decode cc pc = .ok (.ladd, 1)) (kk : W p l e R s m args below meth c H locs cells slots Q (F0 m (pc + 1) ls (.long (zl (a + b)) :: rest))) : W p l e R s m args below meth c H locs cells slots Q (F0 m pc ls (.long (zl b) :: .long (zl a) :: rest)) :=
  lv_ladd hC.1 hC.2.1 hdg (by rw [zl_add]; exact kk)
theorem k_iconst (hC : CX p c cc s m args own Ts Dg cA cnt ad A) {n : Int} (hdg : decode cc pc = .ok (.iconst n, 1)) (kk : W p l e R s m args below meth c H locs cells slots Q (F0 m (pc + 1) ls (.int (zi n) :: rest))) : W p l e R s m args below meth c H locs cells slots Q (F0 m pc ls rest) :=
  lv_iconst hC.1 hC.2.1 hdg rfl kk
theorem k_bipush (hC : CX p c cc s m args own Ts Dg cA cnt ad A) {n : Int} (hdg : decode cc pc = .ok (.bipush n, 2)) (hn : (Int8.ofInt n).toInt32 = zi n) (kk : W p l e R s m args below meth c H locs cells slots Q (F0 m (pc + 2) ls (.int (zi n) :: rest))) : W p l e R s m args below meth c H locs cells slots Q (F0 m pc ls rest) :=
  lv_bipush hC.1 hC.2.1 hdg hn kk
theorem k_sipush (hC : CX p c cc s m args own Ts Dg cA cnt ad A) {n : Int} (hdg : decode cc pc = .ok (.sipush n, 3)) (hn : (Int16.ofInt n).toInt32 = zi n) (kk : W p l e R s m args below meth c H locs cells slots Q (F0 m (pc + 3) ls (.int (zi n) :: rest))) : W p l e R s m args below meth c H locs cells slots Q (F0 m pc ls rest) :=
  lv_sipush hC.1 hC.2.1 hdg hn kk
theorem k_iinc (hC : CX p c cc s m args own Ts Dg cA cnt ad A) {i nL k : Nat} {n a : Int} {lv lv' : List (Nat × Value)} (hdg : decode cc pc = .ok (.iinc i n, 3)) (h : lv_has ls nL lv) (hk : lv[k]? = some (i, .int (zi a))) (hn : i < nL) (hl : (i, Value.int (zi (a + n))) :: lv.filter (fun q => !(q.1 == i) && !(q.1 + 1 == i && q.2.category == 2)) = lv')
    (kk : ∀ ls : Array Slot, lv_has ls nL lv' → W p l e R s m args below meth c H locs cells slots Q (F0 m (pc + 3) ls rest)) : W p l e R s m args below meth c H locs cells slots Q (F0 m pc ls rest) :=
  lv_iinc hC.1 hC.2.1 hdg h hk (zi_add a n) hn hl kk
-- branches
theorem k_icmp_eq (hC : CX p c cc s m args own Ts Dg cA cnt ad A) {a b off : Int} {tgt : Nat} (hdg : decode cc pc = .ok (.if_icmp .eq off, 3)) (ht : (pc : Int) + off = (tgt : Int)) (hs : (-2147483648 ≤ a ∧ a < 2147483648) ∧ (-2147483648 ≤ b ∧ b < 2147483648)) (kt : a = b → W p l e R s m args below meth c H locs cells slots Q (F0 m tgt ls rest)) (kf : a ≠ b → W p l e R s m args below meth c H locs cells slots Q (F0 m (pc + 3) ls rest)) : W p l e R s m args below meth c H locs cells slots Q (F0 m pc ls (.int (zi b) :: .int (zi a) :: rest)) :=
  lv_icmp_eq hC.1 hC.2.1 hdg ht (fun h => kt ((zi_eq hs.1 hs.2).mp h)) (fun h => kf (fun z => h ((zi_eq hs.1 hs.2).mpr z)))
theorem k_icmp_ne (hC : CX p c cc s m args own Ts Dg cA cnt ad A) {a b off : Int} {tgt : Nat} (hdg : decode cc pc = .ok (.if_icmp .ne off, 3)) (ht : (pc : Int) + off = (tgt : Int)) (hs : (-2147483648 ≤ a ∧ a < 2147483648) ∧ (-2147483648 ≤ b ∧ b < 2147483648)) (kt : a ≠ b → W p l e R s m args below meth c H locs cells slots Q (F0 m tgt ls rest)) (kf : a = b → W p l e R s m args below meth c H locs cells slots Q (F0 m (pc + 3) ls rest)) : W p l e R s m args below meth c H locs cells slots Q (F0 m pc ls (.int (zi b) :: .int (zi a) :: rest)) :=
  lv_icmp_ne hC.1 hC.2.1 hdg ht (fun h => kt (fun z => h ((zi_eq hs.1 hs.2).mpr z))) (fun h => kf ((zi_eq hs.1 hs.2).mp h))
theorem k_icmp_lt (hC : CX p c cc s m args own Ts Dg cA cnt ad A) {a b off : Int} {tgt : Nat} (hdg : decode cc pc = .ok (.if_icmp .lt off, 3)) (ht : (pc : Int) + off = (tgt : Int)) (hs : (-2147483648 ≤ a ∧ a < 2147483648) ∧ (-2147483648 ≤ b ∧ b < 2147483648)) (kt : a < b → W p l e R s m args below meth c H locs cells slots Q (F0 m tgt ls rest)) (kf : b ≤ a → W p l e R s m args below meth c H locs cells slots Q (F0 m (pc + 3) ls rest)) : W p l e R s m args below meth c H locs cells slots Q (F0 m pc ls (.int (zi b) :: .int (zi a) :: rest)) :=
  lv_icmp_lt hC.1 hC.2.1 hdg ht (fun h => kt ((zi_lt hs.1 hs.2).mp h)) (fun h => kf (Int.not_lt.mp (fun z => h ((zi_lt hs.1 hs.2).mpr z))))
theorem k_icmp_ge (hC : CX p c cc s m args own Ts Dg cA cnt ad A) {a b off : Int} {tgt : Nat} (hdg : decode cc pc = .ok (.if_icmp .ge off, 3)) (ht : (pc : Int) + off = (tgt : Int)) (hs : (-2147483648 ≤ a ∧ a < 2147483648) ∧ (-2147483648 ≤ b ∧ b < 2147483648)) (kt : b ≤ a → W p l e R s m args below meth c H locs cells slots Q (F0 m tgt ls rest)) (kf : a < b → W p l e R s m args below meth c H locs cells slots Q (F0 m (pc + 3) ls rest)) : W p l e R s m args below meth c H locs cells slots Q (F0 m pc ls (.int (zi b) :: .int (zi a) :: rest)) :=
  lv_icmp_ge hC.1 hC.2.1 hdg ht (fun h => kt ((zi_le hs.2 hs.1).mp h)) (fun h => kf (Int.not_le.mp (fun z => h ((zi_le hs.2 hs.1).mpr z))))
theorem k_icmp_gt (hC : CX p c cc s m args own Ts Dg cA cnt ad A) {a b off : Int} {tgt : Nat} (hdg : decode cc pc = .ok (.if_icmp .gt off, 3)) (ht : (pc : Int) + off = (tgt : Int)) (hs : (-2147483648 ≤ a ∧ a < 2147483648) ∧ (-2147483648 ≤ b ∧ b < 2147483648)) (kt : b < a → W p l e R s m args below meth c H locs cells slots Q (F0 m tgt ls rest)) (kf : a ≤ b → W p l e R s m args below meth c H locs cells slots Q (F0 m (pc + 3) ls rest)) : W p l e R s m args below meth c H locs cells slots Q (F0 m pc ls (.int (zi b) :: .int (zi a) :: rest)) :=
  lv_icmp_gt hC.1 hC.2.1 hdg ht (fun h => kt ((zi_lt hs.2 hs.1).mp h)) (fun h => kf (Int.not_lt.mp (fun z => h ((zi_lt hs.2 hs.1).mpr z))))
theorem k_icmp_le (hC : CX p c cc s m args own Ts Dg cA cnt ad A) {a b off : Int} {tgt : Nat} (hdg : decode cc pc = .ok (.if_icmp .le off, 3)) (ht : (pc : Int) + off = (tgt : Int)) (hs : (-2147483648 ≤ a ∧ a < 2147483648) ∧ (-2147483648 ≤ b ∧ b < 2147483648)) (kt : a ≤ b → W p l e R s m args below meth c H locs cells slots Q (F0 m tgt ls rest)) (kf : b < a → W p l e R s m args below meth c H locs cells slots Q (F0 m (pc + 3) ls rest)) : W p l e R s m args below meth c H locs cells slots Q (F0 m pc ls (.int (zi b) :: .int (zi a) :: rest)) :=
  lv_icmp_le hC.1 hC.2.1 hdg ht (fun h => kt ((zi_le hs.1 hs.2).mp h)) (fun h => kf (Int.not_le.mp (fun z => h ((zi_le hs.1 hs.2).mpr z))))
theorem sm0 : sm 0 := ⟨by omega, by omega⟩
theorem k_if_eq (hC : CX p c cc s m args own Ts Dg cA cnt ad A) {a off : Int} {tgt : Nat} (hdg : decode cc pc = .ok (.ifCond .eq off, 3)) (ht : (pc : Int) + off = (tgt : Int)) (hs : -2147483648 ≤ a ∧ a < 2147483648) (kt : a = 0 → W p l e R s m args below meth c H locs cells slots Q (F0 m tgt ls rest)) (kf : a ≠ 0 → W p l e R s m args below meth c H locs cells slots Q (F0 m (pc + 3) ls rest)) : W p l e R s m args below meth c H locs cells slots Q (F0 m pc ls (.int (zi a) :: rest)) :=
  lv_if_eq hC.1 hC.2.1 hdg ht (fun h => kt ((zi_eq hs sm0).mp (h.trans z0))) (fun h => kf (fun z => h (((zi_eq hs sm0).mpr z).trans z0.symm)))
theorem k_if_ne (hC : CX p c cc s m args own Ts Dg cA cnt ad A) {a off : Int} {tgt : Nat} (hdg : decode cc pc = .ok (.ifCond .ne off, 3)) (ht : (pc : Int) + off = (tgt : Int)) (hs : -2147483648 ≤ a ∧ a < 2147483648) (kt : a ≠ 0 → W p l e R s m args below meth c H locs cells slots Q (F0 m tgt ls rest)) (kf : a = 0 → W p l e R s m args below meth c H locs cells slots Q (F0 m (pc + 3) ls rest)) : W p l e R s m args below meth c H locs cells slots Q (F0 m pc ls (.int (zi a) :: rest)) :=
  lv_if_ne hC.1 hC.2.1 hdg ht (fun h => kt (fun z => h (((zi_eq hs sm0).mpr z).trans z0.symm))) (fun h => kf ((zi_eq hs sm0).mp (h.trans z0)))
theorem k_if_lt (hC : CX p c cc s m args own Ts Dg cA cnt ad A) {a off : Int} {tgt : Nat} (hdg : decode cc pc = .ok (.ifCond .lt off, 3)) (ht : (pc : Int) + off = (tgt : Int)) (hs : -2147483648 ≤ a ∧ a < 2147483648) (kt : a < 0 → W p l e R s m args below meth c H locs cells slots Q (F0 m tgt ls rest)) (kf : 0 ≤ a → W p l e R s m args below meth c H locs cells slots Q (F0 m (pc + 3) ls rest)) : W p l e R s m args below meth c H locs cells slots Q (F0 m pc ls (.int (zi a) :: rest)) :=
  lv_if_lt hC.1 hC.2.1 hdg ht (fun h => kt ((zi_lt hs sm0).mp (by rw [← z0]; exact h))) (fun h => kf (Int.not_lt.mp (fun z => h (by rw [z0]; exact (zi_lt hs sm0).mpr z))))
theorem k_if_ge (hC : CX p c cc s m args own Ts Dg cA cnt ad A) {a off : Int} {tgt : Nat} (hdg : decode cc pc = .ok (.ifCond .ge off, 3)) (ht : (pc : Int) + off = (tgt : Int)) (hs : -2147483648 ≤ a ∧ a < 2147483648) (kt : 0 ≤ a → W p l e R s m args below meth c H locs cells slots Q (F0 m tgt ls rest)) (kf : a < 0 → W p l e R s m args below meth c H locs cells slots Q (F0 m (pc + 3) ls rest)) : W p l e R s m args below meth c H locs cells slots Q (F0 m pc ls (.int (zi a) :: rest)) :=
  lv_if_ge hC.1 hC.2.1 hdg ht (fun h => kt ((zi_le sm0 hs).mp (by rw [← z0]; exact h))) (fun h => kf (Int.not_le.mp (fun z => h (by rw [z0]; exact (zi_le sm0 hs).mpr z))))
theorem k_if_gt (hC : CX p c cc s m args own Ts Dg cA cnt ad A) {a off : Int} {tgt : Nat} (hdg : decode cc pc = .ok (.ifCond .gt off, 3)) (ht : (pc : Int) + off = (tgt : Int)) (hs : -2147483648 ≤ a ∧ a < 2147483648) (kt : 0 < a → W p l e R s m args below meth c H locs cells slots Q (F0 m tgt ls rest)) (kf : a ≤ 0 → W p l e R s m args below meth c H locs cells slots Q (F0 m (pc + 3) ls rest)) : W p l e R s m args below meth c H locs cells slots Q (F0 m pc ls (.int (zi a) :: rest)) :=
  lv_if_gt hC.1 hC.2.1 hdg ht (fun h => kt ((zi_lt sm0 hs).mp (by rw [← z0]; exact h))) (fun h => kf (Int.not_lt.mp (fun z => h (by rw [z0]; exact (zi_lt sm0 hs).mpr z))))
theorem k_if_le (hC : CX p c cc s m args own Ts Dg cA cnt ad A) {a off : Int} {tgt : Nat} (hdg : decode cc pc = .ok (.ifCond .le off, 3)) (ht : (pc : Int) + off = (tgt : Int)) (hs : -2147483648 ≤ a ∧ a < 2147483648) (kt : a ≤ 0 → W p l e R s m args below meth c H locs cells slots Q (F0 m tgt ls rest)) (kf : 0 < a → W p l e R s m args below meth c H locs cells slots Q (F0 m (pc + 3) ls rest)) : W p l e R s m args below meth c H locs cells slots Q (F0 m pc ls (.int (zi a) :: rest)) :=
  lv_if_le hC.1 hC.2.1 hdg ht (fun h => kt ((zi_le hs sm0).mp (by rw [← z0]; exact h))) (fun h => kf (Int.not_le.mp (fun z => h (by rw [z0]; exact (zi_le hs sm0).mpr z))))
-- fields
theorem r_get (hC : CX p c cc s m args own Ts Dg cA cnt ad A) (hW : WP Dg cnt ad E H) {C ref : String} {T : u_T} {N ci index : Nat} (hin : ∀ w ∈ u_ws C T N, w ∈ Ts) (hc : vwCl[ci]? = some (C, T, N)) (k : Nat) (hk : k < N) (hl : (Cond.fieldLink own index ref (T k).2.1 (T k).2.2.1).before args s = true) (hsame : ∀ x, s.fieldFound? (T k).1 (T k).2.1 (T k).2.2.1 = some x → s.fieldFound? ref (T k).2.1 (T k).2.2.1 = some x) {t : Nat} {i : Int} (h0 : 0 ≤ i) (h1 : i < cnt t) {fs : List Value} (he : E t i = .inr (ci, fs)) {v : Value} (hv : fs[k]? = some v) (hdg : decode cc pc = .ok (.getfield index, 3))
    (kk : W p l e R s m args below meth c H locs cells slots Q (F0 m (pc + 3) ls (v :: rest))) : W p l e R s m args below meth c H locs cells slots Q (F0 m pc ls (.ref (ad t i) :: rest)) :=
  va_get (D := Dg) hC.1 hC.2.1 hC.2.2.2.1 hin hC.2.2.1 hC.2.2.2.2.1 (hW.one h0 h1 he) 0 rfl hc k hk hl hsame hv hdg kk
theorem r_put (hC : CX p c cc s m args own Ts Dg cA cnt ad A) (hW : WP Dg cnt ad E H) (hS0 : va_S A H0 H locs) {C ref : String} {T : u_T} {N ci index : Nat} (hin : ∀ w ∈ u_ws C T N, w ∈ Ts) (ty0 : Nat → FieldType) (hty : ∀ k, k < N → parseFieldDescriptor (T k).2.2.1 = some (ty0 k)) (hnm : ∀ a, a < N → ∀ b, b < N → a ≠ b → (T a).2.1 ≠ (T b).2.1) (hc : vwCl[ci]? = some (C, T, N)) (k : Nat) (hk : k < N) (hl : (Cond.fieldLink own index ref (T k).2.1 (T k).2.2.1).before args s = true) (hsame : ∀ x, s.fieldFound? (T k).1 (T k).2.1 (T k).2.2.1 = some x → s.fieldFound? ref (T k).2.1 (T k).2.2.1 = some x) (hfin : (T k).2.2.2 = false) {ty : FieldType} {v : Value} (hd : parseFieldDescriptor (T k).2.2.1 = some ty) (hn : narrow ty v = v) (hfit : fits ty v = true) {t : Nat} {i : Int} (h0 : 0 ≤ i) (h1 : i < cnt t) {fs : List Value} (he : E t i = .inr (ci, fs)) (hlen : k < fs.length) (hE : upE E t i (.inr (ci, fs.set k v)) = E') (hdg : decode cc pc = .ok (.putfield index, 3))
    (kk : ∀ (H1 : Heap) (locs1 : List Loc), WP Dg cnt ad E' H1 → va_S A H0 H1 locs1 → W p l e R s m args below meth c H1 locs1 cells slots Q (F0 m (pc + 3) ls rest)) : W p l e R s m args below meth c H locs cells slots Q (F0 m pc ls (v :: .ref (ad t i) :: rest)) := by
  obtain ⟨hexec, hb, hown, hts, hK, hI, hA⟩ := hC
  have hap := va_apart (own := own) hts hin ty0 hty hnm hK hc
  obtain ⟨r, h9, cell, q1, q2, q3, q4⟩ := (hW.one h0 h1 he) 0 _ rfl
  have hr : r = (C, T, N) := Option.some.inj (h9.symm.trans hc)
  subst hr
  obtain ⟨hS, hfc, kC, hkC, hkind⟩ := hK.1 ci _ hc
  obtain ⟨cf, kf, fi, f, hi, hsl⟩ := hS k hk
  have hlay := hts _ (hin _ (u_in_lay hk))
  unfold u_lay at hlay
  rw [if_neg (by rw [hfin]; decide)] at hlay
  have hst := (u_facts hfc hkC (u_lays hts hin hk) hi).1
  have h6 := u_store hfc hkC hkind hlay hi hd hn hfit
  refine W.putK hexec hb (f := f) ⟨hown, hl, ⟨_, _, _, hsame _ hi⟩, hst⟩ (by rw [q2]; exact h6) q1 q3 (by rw [hsl]; exact k2_hasslot (q4 k hk)) rfl rfl hdg fun H' e1 e2 e3 => ?_
  rw [hsl] at e1 ⊢
  rw [← hE] at kk
  exact kk H' _ (hW.set hI h0 h1 ⟨_, hc, t_OB.to (V := updV (vp_V fs) k v) ⟨_, e1, q2, q3, t_set q4 hap hk v⟩ (fun j _ => vp_updV_set hlen v j)⟩ e3) (hS0.put e2 e3 (hA t i h0 h1))
-- arrays: read
theorem r_iald (hC : CX p c cc s m args own Ts Dg cA cnt ad A) (hW : WP Dg cnt ad E H) {t : Nat} {i : Int} (h0 : 0 ≤ i) (h1 : i < cnt t) {n : Nat} {g : Int → Int} (he : E t i = .inl (cA 1, n, .inl (fun j => zi (g (j : Int))))) (hn : n < 2147483648) {x : Int} (hx : 0 ≤ x ∧ x < n) (hdg : decode cc pc = .ok (.iaload, 1))
    (kk : W p l e R s m args below meth c H locs cells slots Q (F0 m (pc + 1) ls (.int (zi (g x)) :: rest))) : W p l e R s m args below meth c H locs cells slots Q (F0 m pc ls (.int (zi x) :: .ref (ad t i) :: rest)) :=
  va_iald (D := Dg) hC.1 hC.2.1 hC.2.2.2.2.1 (hW.one h0 h1 he) 0 1 rfl rfl (zi_in hx.1 hx.2 hn) hdg (by rw [zi_cl hx.1 (by omega)]; rw [Int.toNat_of_nonneg hx.1]; exact kk)
theorem r_zald (hC : CX p c cc s m args own Ts Dg cA cnt ad A) (hW : WP Dg cnt ad E H) {t : Nat} {i : Int} (h0 : 0 ≤ i) (h1 : i < cnt t) {n : Nat} {g : Int → Int} (he : E t i = .inl (cA 2, n, .inl (fun j => zi (g (j : Int))))) (hn : n < 2147483648) {x : Int} (hx : 0 ≤ x ∧ x < n) (hdg : decode cc pc = .ok (.baload, 1))
    (kk : W p l e R s m args below meth c H locs cells slots Q (F0 m (pc + 1) ls (.int (zi (g x)) :: rest))) : W p l e R s m args below meth c H locs cells slots Q (F0 m pc ls (.int (zi x) :: .ref (ad t i) :: rest)) :=
  va_zald (D := Dg) hC.1 hC.2.1 hC.2.2.2.2.1 (hW.one h0 h1 he) 0 2 rfl rfl (zi_in hx.1 hx.2 hn) hdg (by rw [zi_cl hx.1 (by omega)]; rw [Int.toNat_of_nonneg hx.1]; exact kk)
theorem r_cald (hC : CX p c cc s m args own Ts Dg cA cnt ad A) (hW : WP Dg cnt ad E H) {t : Nat} {i : Int} (h0 : 0 ≤ i) (h1 : i < cnt t) {n : Nat} {g : Int → Int} (he : E t i = .inl (cA 0, n, .inl (fun j => zi (g (j : Int))))) (hn : n < 2147483648) {x : Int} (hx : 0 ≤ x ∧ x < n) (hdg : decode cc pc = .ok (.caload, 1))
    (kk : W p l e R s m args below meth c H locs cells slots Q (F0 m (pc + 1) ls (.int (zi (g x)) :: rest))) : W p l e R s m args below meth c H locs cells slots Q (F0 m pc ls (.int (zi x) :: .ref (ad t i) :: rest)) :=
  va_cald (D := Dg) hC.1 hC.2.1 hC.2.2.2.2.1 (hW.one h0 h1 he) 0 0 rfl rfl (zi_in hx.1 hx.2 hn) hdg (by rw [zi_cl hx.1 (by omega)]; rw [Int.toNat_of_nonneg hx.1]; exact kk)
theorem r_aald (hC : CX p c cc s m args own Ts Dg cA cnt ad A) (hW : WP Dg cnt ad E H) {t : Nat} {i : Int} (h0 : 0 ≤ i) (h1 : i < cnt t) {n ty : Nat} {C : String} (hty : (tyL cA)[ty]? = some (cA ty, .object C)) {g : Int → Nat} (he : E t i = .inl (cA ty, n, .inr (.inr (.inr (.inr (fun j => some (g (j : Int)))))))) (hn : n < 2147483648) {x : Int} (hx : 0 ≤ x ∧ x < n) (hdg : decode cc pc = .ok (.aaload, 1))
    (kk : W p l e R s m args below meth c H locs cells slots Q (F0 m (pc + 1) ls (.ref (g x) :: rest))) : W p l e R s m args below meth c H locs cells slots Q (F0 m pc ls (.int (zi x) :: .ref (ad t i) :: rest)) :=
  va_aldq (D := Dg) hC.1 hC.2.1 hC.2.2.2.2.1 (hW.one h0 h1 he) 0 ty rfl hty (zi_in hx.1 hx.2 hn) hdg (by rw [zi_cl hx.1 (by omega)]; rw [Int.toNat_of_nonneg hx.1]; exact kk)
-- arrays: write
theorem arrV_congr {c : ClassId} {n : Nat} {f g : Nat → Value} (h : ∀ j : Nat, j < n → f j = g j) : arrV c n f = arrV c n g := by
  unfold arrV
  congr 1
  congr 1
  funext j
  exact h j.val j.isLt
theorem upd_zi {g g' : Int → Int} {x y : Int} {n : Nat} (hx : 0 ≤ x ∧ x < n) (hn : n < 2147483648) (hg : ∀ j : Int, 0 ≤ j → j < n → g' j = if j = x then y else g j) (j : Nat) (hj : j < n) : updV (fun j => .int (zi (g (j : Int)))) (zi x).toNatClampNeg (.int (zi y)) j = .int (zi (g' (j : Int))) := by
  rw [zi_cl hx.1 (by omega)]
  unfold updV
  rw [hg (j : Int) (by omega) (by omega)]
  by_cases h : j = x.toNat
  · rw [if_pos h, if_pos (by omega)]
  · rw [if_neg h, if_neg (by omega)]
theorem r_iast (hC : CX p c cc s m args own Ts Dg cA cnt ad A) (hW : WP Dg cnt ad E H) (hS0 : va_S A H0 H locs) {t : Nat} {i : Int} (h0 : 0 ≤ i) (h1 : i < cnt t) {n : Nat} {g : Int → Int} (g' : Int → Int) (he : E t i = .inl (cA 1, n, .inl (fun j => zi (g (j : Int))))) (hn : n < 2147483648) {x y : Int} (hx : 0 ≤ x ∧ x < n) (hg : ∀ j : Int, 0 ≤ j → j < n → g' j = if j = x then y else g j) (hE : upE E t i (.inl (cA 1, n, .inl (fun j => zi (g' (j : Int))))) = E') (hdg : decode cc pc = .ok (.iastore, 1))
    (kk : ∀ (H1 : Heap) (locs1 : List Loc), WP Dg cnt ad E' H1 → va_S A H0 H1 locs1 → W p l e R s m args below meth c H1 locs1 cells slots Q (F0 m (pc + 1) ls rest)) : W p l e R s m args below meth c H locs cells slots Q (F0 m pc ls (.int (zi y) :: .int (zi x) :: .ref (ad t i) :: rest)) := by
  obtain ⟨hexec, hb, hown, hts, hK, hI, hA⟩ := hC
  refine W.iast hexec hb ((hW.one h0 h1 he) 0 _ rfl) ((hK.2 1 _ rfl).1 n (fun j => .int (zi (g (j : Int))))) (fun q => by cases q) (by show ¬ (zi x < 0 ∨ (arrV _ _ _).slots.size ≤ _); rw [arrV_size]; exact zi_in hx.1 hx.2 hn) rfl rfl hdg fun H1 e9 z oq => ?_
  rw [← hE] at kk
  refine kk H1 _ (hW.set hI h0 h1 ?_ oq) (hS0.put z oq (hA t i h0 h1))
  show H1[ad t i]? = some (vp_cell _ _)
  rw [e9]
  rw [vp_cell_i, vp_cell_i, arrV_store]
  congr 1
  exact arrV_congr (fun j hj => upd_zi hx hn hg j hj)
theorem nar_z {y : Int} (h : y = 0 ∨ y = 1) : vp_nar .boolean (zi y) = zi y := by
  rcases h with rfl | rfl <;> decide
theorem r_zast (hC : CX p c cc s m args own Ts Dg cA cnt ad A) (hW : WP Dg cnt ad E H) (hS0 : va_S A H0 H locs) {t : Nat} {i : Int} (h0 : 0 ≤ i) (h1 : i < cnt t) {n : Nat} {g : Int → Int} (g' : Int → Int) (he : E t i = .inl (cA 2, n, .inl (fun j => zi (g (j : Int))))) (hn : n < 2147483648) {x y : Int} (hy : y = 0 ∨ y = 1) (hx : 0 ≤ x ∧ x < n) (hg : ∀ j : Int, 0 ≤ j → j < n → g' j = if j = x then y else g j) (hE : upE E t i (.inl (cA 2, n, .inl (fun j => zi (g' (j : Int))))) = E') (hdg : decode cc pc = .ok (.bastore, 1))
    (kk : ∀ (H1 : Heap) (locs1 : List Loc), WP Dg cnt ad E' H1 → va_S A H0 H1 locs1 → W p l e R s m args below meth c H1 locs1 cells slots Q (F0 m (pc + 1) ls rest)) : W p l e R s m args below meth c H locs cells slots Q (F0 m pc ls (.int (zi y) :: .int (zi x) :: .ref (ad t i) :: rest)) := by
  obtain ⟨hexec, hb, hown, hts, hK, hI, hA⟩ := hC
  refine W.zast hexec hb ((hW.one h0 h1 he) 0 _ rfl) ((hK.2 2 _ rfl).1 n (fun j => .int (zi (g (j : Int))))) (fun q => by cases q) (by show ¬ (zi x < 0 ∨ (arrV _ _ _).slots.size ≤ _); rw [arrV_size]; exact zi_in hx.1 hx.2 hn) rfl rfl hdg fun H1 e9 z oq => ?_
  rw [← hE] at kk
  refine kk H1 _ (hW.set hI h0 h1 ?_ oq) (hS0.put z oq (hA t i h0 h1))
  show H1[ad t i]? = some (vp_cell _ _)
  rw [e9]
  rw [vp_cell_i, vp_cell_i, arrV_store]
  congr 1
  have hnar : ∀ v : Value, v = .int (zi y) → narrow .boolean v = v := fun v hv => by subst hv; rcases hy with rfl | rfl <;> decide
  refine arrV_congr (fun j hj => ?_)
  rw [← upd_zi hx hn hg j hj]
  congr 1
  exact hnar _ rfl
theorem nar_c : ∀ n, n < 65536 → narrow .char (.int (nI n)) = .int (nI n) := fun n h => (pk_charN h).1
theorem zi_nI {y : Int} (h : 0 ≤ y) : zi y = nI y.toNat := by
  unfold zi nI
  rw [← Int32.ofInt_eq_ofNat, Int.toNat_of_nonneg h]
theorem r_cast (hC : CX p c cc s m args own Ts Dg cA cnt ad A) (hW : WP Dg cnt ad E H) (hS0 : va_S A H0 H locs) {t : Nat} {i : Int} (h0 : 0 ≤ i) (h1 : i < cnt t) {n : Nat} {g : Int → Int} (g' : Int → Int) (he : E t i = .inl (cA 0, n, .inl (fun j => zi (g (j : Int))))) (hn : n < 2147483648) {x y : Int} (hy : 0 ≤ y ∧ y < 65536) (hx : 0 ≤ x ∧ x < n) (hg : ∀ j : Int, 0 ≤ j → j < n → g' j = if j = x then y else g j) (hE : upE E t i (.inl (cA 0, n, .inl (fun j => zi (g' (j : Int))))) = E') (hdg : decode cc pc = .ok (.castore, 1))
    (kk : ∀ (H1 : Heap) (locs1 : List Loc), WP Dg cnt ad E' H1 → va_S A H0 H1 locs1 → W p l e R s m args below meth c H1 locs1 cells slots Q (F0 m (pc + 1) ls rest)) : W p l e R s m args below meth c H locs cells slots Q (F0 m pc ls (.int (zi y) :: .int (zi x) :: .ref (ad t i) :: rest)) := by
  obtain ⟨hexec, hb, hown, hts, hK, hI, hA⟩ := hC
  refine W.cast hexec hb ((hW.one h0 h1 he) 0 _ rfl) ((hK.2 0 _ rfl).1 n (fun j => .int (zi (g (j : Int))))) (fun q => by cases q) (by show ¬ (zi x < 0 ∨ (arrV _ _ _).slots.size ≤ _); rw [arrV_size]; exact zi_in hx.1 hx.2 hn) rfl rfl hdg fun H1 e9 z oq => ?_
  rw [← hE] at kk
  refine kk H1 _ (hW.set hI h0 h1 ?_ oq) (hS0.put z oq (hA t i h0 h1))
  show H1[ad t i]? = some (vp_cell _ _)
  rw [e9]
  rw [vp_cell_i, vp_cell_i, arrV_store]
  congr 1
  have hnar : narrow .char (.int (zi y)) = .int (zi y) := by rw [zi_nI hy.1]; exact nar_c _ (by omega)
  refine arrV_congr (fun j hj => ?_)
  rw [← upd_zi hx hn hg j hj]
  congr 1
end BASE1
