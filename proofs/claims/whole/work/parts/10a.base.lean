section BASE11
variable {p : Program} {l : Launch} {e : Env} {R : Room} {s : State} {m : MethodId} {args : Array Value} {below : List Frame} {meth : Method} {c : Code} {H : Heap} {locs : List Loc} {cells slots : Nat} {Q : State → Prop} {cc bytes : ByteArray} {pc index maxL n : Nat} {ls : Array Slot} {rest st0 : List Value} {own : String} {Ts ws ws' : List Cond} {Dg : va_G} {cA : Nat → ClassId} {cL cD : ClassId} {cnt : Nat → Int} {ad ad1 ad2 : Nat → Int → Nat} {oc : Nat → Nat} {ao aD : Nat} {A : Nat → Prop} {E E' : Nat → Int → va_E} {nL : Nat} {ret0 : Option FieldType} {y : MethodName} {rm : Room} {b L : Nat} {xs : Nat → Int32} {As : List Value} {o o' : Int64} {d d' : UInt64} {hh : List (Nat × Nat × Nat × Nat)} {σ : St}
/-- what the law's walk stands on -/
def LK (p : Program) (l : Launch) (c : Code) (s : State) (m : MethodId) (meth : Method) (b L : Nat) (xs : Nat → Int32) (Dg : va_G) (cA : Nat → ClassId) (cL cD : ClassId) (oc : Nat → Nat) : Prop :=
  KX p c cL_law s m meth #[Value.ref b] RL wsL_law Dg cA (fun _ => 0) (fun _ _ => 0) oc (NA s.heap.size) 10 (some .boolean) ∧ va_K Dg vwCl (tyX cL cD) s ∧ (∀ q ∈ ncL, va_Nc q.1 q.2 s) ∧ va_X b L xs s s.heap ∧ b < s.heap.size ∧ l.stackTraces = false ∧ L ≤ 2560
/-- the two objects and the two boxes lie apart, and were made in this call -/
def LA (ad1 ad2 : Nat → Int → Nat) (ao aD h0 : Nat) : Prop :=
  WI ccnt ad1 ∧ WI mcnt ad2 ∧ WN ad1 ao aD ∧ (∀ (t : Nat) (i : Int) (t' : Nat) (i' : Int), 0 ≤ i → i < ccnt t → 0 ≤ i' → i' < mcnt t' → ad1 t i ≠ ad2 t' i') ∧ (∀ (t : Nat) (i : Int), 0 ≤ i → i < mcnt t → ad2 t i ≠ ao ∧ ad2 t i ≠ aD) ∧ (∀ (t : Nat) (i : Int), 0 ≤ i → i < ccnt t → h0 ≤ ad1 t i) ∧ (∀ (t : Nat) (i : Int), 0 ≤ i → i < mcnt t → h0 ≤ ad2 t i) ∧ h0 ≤ ao ∧ h0 ≤ aD
def LW (Dg : va_G) (cA : Nat → ClassId) (cL cD : ClassId) (ad1 ad2 : Nat → Int → Nat) (ao aD : Nat) (σ : St) (o : Int64) (d : UInt64) (H : Heap) : Prop :=
  WP Dg ccnt ad1 (cE cA ad1 σ) H ∧ WP Dg mcnt ad2 (mE cA ad2 σ) H ∧ va_at Dg vwCl (ao, zlE cL o) H ∧ va_at Dg vwCl (aD, dlE cD d) H
theorem kx_any (hX : KX p c cc s m meth args own Ts Dg cA (fun _ => 0) (fun _ _ => 0) oc A nL ret0) (hI : WI cnt ad) (hA : ∀ (t : Nat) (i : Int), 0 ≤ i → i < cnt t → A (ad t i)) : KX p c cc s m meth args own Ts Dg cA cnt ad oc A nL ret0 :=
  ⟨⟨hX.1.1, hX.1.2.1, hX.1.2.2.1, hX.1.2.2.2.1, hX.1.2.2.2.2.1, hI, hA⟩, hX.2⟩
/-- cells that aren't among a call's own stay -/
theorem wp_kept {cnt2 : Nat → Int} {E2 : Nat → Int → va_E} {H1 : Heap} {B : Nat → Prop} (h : WP Dg cnt2 ad2 E2 H) (hn : ∀ (t : Nat) (i : Int), 0 ≤ i → i < cnt2 t → ¬ B (ad2 t i)) (hk : ∀ q : Nat, q < H.size → ¬ B q → H1[q]? = H[q]?) : WP Dg cnt2 ad2 E2 H1 :=
  h.kept (fun t i h0 h1 => hk _ (h.lt h0 h1) (hn t i h0 h1))
theorem l_callW {v : Int} (hX : KX p c cc s m meth args own Ts Dg cA ccnt ad1 oc A nL ret0) (hK2 : va_K Dg vwCl (tyX cL cD) s) (hNc : ∀ q ∈ ncL, va_Nc q.1 q.2 s) (hAo : A ao) (hAD : A aD) (hls : ls.size = nL) (hM : GW l y ws rm Dg cA cL cD ad1 oc ao aD E o d As v E' o' d') (cw : vx_CSW R s args own index y bytes maxL (some .int) hh ws rm 1 6 n) (hW : WP Dg ccnt ad1 E H) (hO : va_at Dg vwCl (ao, zlE cL o) H) (hD : va_at Dg vwCl (aD, dlE cD d) H) (hS : va_S A s.heap H locs) (hf : cells + 1 ≤ R.cells ∧ slots + 6 ≤ R.slots) (hst : st0 = As.reverse ++ rest) (hn : As.length = n) (hcat : (rest.map fun v => v.category).sum ≤ 8) (hdg : decode cc pc = .ok (.invokestatic index, 3))
    (kk : ∀ (H1 : Heap) (locs1 : List Loc), WP Dg ccnt ad1 E' H1 → va_at Dg vwCl (ao, zlE cL o') H1 → va_at Dg vwCl (aD, dlE cD d') H1 → va_S A s.heap H1 locs1 → (∀ q : Nat, q < H.size → ¬ WO ad1 ao aD H.size q → H1[q]? = H[q]?) → W p l e R s m args below meth c H1 locs1 (cells + 1) (slots + 6) Q (F0 m (pc + 3) ls (.int (zi v) :: rest))) : W p l e R s m args below meth c H locs cells slots Q (F0 m pc ls st0) := by
  have hA1 : ∀ q : Nat, WO ad1 ao aD H.size q → A q := by
    intro q h
    rcases h with rfl | rfl | h
    · exact hAo
    · exact hAD
    · exact wa_sub (H0 := H) hX.1.2.2.2.2.2.2 hX.2.2.2.2.2 hS q h
  refine va_calli (vx_runSW (As := As) (rest := rest) ⟨hX.1.1, hX.1.2.1, hX.2.1, hX.1.2.2.1, hX.1.2.2.2.1⟩ (hM H.size) cw ⟨wPre_blind, fun U hU hWm => ⟨rfl, by rw [hU], by rw [hU]; exact hW, by rw [hU]; exact hO, by rw [hU]; exact hD, va_K.moved hWm.alike hX.1.2.2.2.2.1, va_K.moved hWm.alike hK2, by rw [hU]; exact hX.2.2.2.2.1.call hS hA1 hWm, fun q hq => va_Nc.moved hWm.alike (hNc q hq)⟩⟩ rfl hn hls hst (lv_room hcat) hdg hf) hS (fun q _ h => hA1 q h) hA1 (fun r u t H1 locs1 ht _ hp hB hz hk hS1 => ?_)
  obtain ⟨hB1, hB2, hB3⟩ := hB
  rw [ht] at hB1 hB2 hB3
  have hp : r = zi v := hp
  subst hp
  exact kk H1 locs1 hB1 hB2 hB3 hS1 hk
/-- the script's ints -/
def sx (xs : Nat → Int32) (j : Int) : Int := (xs j.toNat).toInt
def cx (xs : Nat → Int32) (j : Int) : Int := (((xs j.toNat).toBitVec.toNat % 65536 : Nat) : Int)
theorem sx_rng (xs : Nat → Int32) (j : Int) : -2147483648 ≤ sx xs j ∧ sx xs j < 2147483648 := zi_rng _
theorem cx_rng (xs : Nat → Int32) (j : Int) : 0 ≤ cx xs j ∧ cx xs j < 65536 := by
  unfold cx
  omega
theorem l_sld {i : Int} (hK : LK p l c s m meth b L xs Dg cA cL cD oc) (hS : va_S (NA s.heap.size) s.heap H locs) (hi : 0 ≤ i ∧ i < L) (hdg : decode cL_law pc = .ok (.iaload, 1))
    (kk : W p l e R s m args below meth c H locs cells slots Q (F0 m (pc + 1) ls (.int (zi (sx xs i)) :: rest))) : W p l e R s m args below meth c H locs cells slots Q (F0 m pc ls (.int (zi i) :: .ref b :: rest)) := by
  obtain ⟨hX, -, -, hXb, hbl, -, hL⟩ := hK
  have hcl : (zi i).toNatClampNeg = i.toNat := zi_cl hi.1 (by omega)
  refine va_sld hX.1.1 hX.1.2.1 hXb hbl (fun h => by have h : s.heap.size ≤ b := h; omega) hS (zi_in hi.1 hi.2 (by omega)) hdg ?_
  rw [hcl]
  have e9 : xs i.toNat = zi (sx xs i) := (zi_of _).symm
  rw [e9]
  exact kk
theorem l_i2c {i : Int} (hK : LK p l c s m meth b L xs Dg cA cL cD oc) (hdg : decode cL_law pc = .ok (.i2c, 1))
    (kk : W p l e R s m args below meth c H locs cells slots Q (F0 m (pc + 1) ls (.int (zi (cx xs i)) :: rest))) : W p l e R s m args below meth c H locs cells slots Q (F0 m pc ls (.int (zi (sx xs i)) :: rest)) := by
  obtain ⟨hX, -⟩ := hK
  refine lv_i2c hX.1.1 hX.1.2.1 hdg ?_ kk
  unfold sx cx
  rw [zi_of, pk_char, zi_nI (by omega)]
  rfl
theorem lg_cmp0 (x : Int64) : lg_cmp x x = zi 0 := by
  have e1 : lg_cmp x x = 0 := by simp [lg_cmp]
  rw [e1]
  rfl
theorem l_lcmp {x y : Int64} (hx : p.tables.exec = Jvm.exec) (hb : c.code = cc) (hxy : x = y) (hdg : decode cc pc = .ok (.lcmp, 1))
    (kk : W p l e R s m args below meth c H locs cells slots Q (F0 m (pc + 1) ls (.int (zi 0) :: rest))) : W p l e R s m args below meth c H locs cells slots Q (F0 m pc ls (.long y :: .long x :: rest)) := by
  subst hxy
  exact W.lcmp hx hb hdg (by rw [lg_cmp0]; exact kk)
theorem l_dcmp {x y : UInt64} {op : CmpOp} (hx : p.tables.exec = Jvm.exec) (hb : c.code = cc) (hxy : Op.cmpValue (FP.dcmp x y) op = zi 0) (hdg : decode cc pc = .ok (.dcmp op, 1))
    (kk : W p l e R s m args below meth c H locs cells slots Q (F0 m (pc + 1) ls (.int (zi 0) :: rest))) : W p l e R s m args below meth c H locs cells slots Q (F0 m pc ls (.double y :: .double x :: rest)) :=
  lv_dcmp hx hb hdg (by rw [hxy]; exact kk)
theorem l_lald (hx : p.tables.exec = Jvm.exec) (hb : c.code = cc) (hK2 : va_K Dg vwCl (tyX cL cD) s) (hO : va_at Dg vwCl (ao, zlE cL o) H) (hdg : decode cc pc = .ok (.laload, 1))
    (kk : W p l e R s m args below meth c H locs cells slots Q (F0 m (pc + 1) ls (.long o :: rest))) : W p l e R s m args below meth c H locs cells slots Q (F0 m pc ls (.int (zi 0) :: .ref ao :: rest)) := by
  have hP : va_P Dg vwCl [(ao, zlE cL o)] H := by
    intro j q hj
    have hz : j < 1 := (List.getElem?_eq_some_iff.mp hj).1
    rw [show j = 0 by omega] at hj
    cases hj
    exact hO
  exact va_lald (D := Dg) hx hb hK2 hP 0 0 rfl rfl (zi_in (by decide) (by decide) (by decide)) hdg kk
theorem l_dald (hx : p.tables.exec = Jvm.exec) (hb : c.code = cc) (hK2 : va_K Dg vwCl (tyX cL cD) s) (hD : va_at Dg vwCl (aD, dlE cD d) H) (hdg : decode cc pc = .ok (.daload, 1))
    (kk : W p l e R s m args below meth c H locs cells slots Q (F0 m (pc + 1) ls (.double d :: rest))) : W p l e R s m args below meth c H locs cells slots Q (F0 m pc ls (.int (zi 0) :: .ref aD :: rest)) := by
  have hP : va_P Dg vwCl [(aD, dlE cD d)] H := by
    intro j q hj
    have hz : j < 1 := (List.getElem?_eq_some_iff.mp hj).1
    rw [show j = 0 by omega] at hj
    cases hj
    exact hD
  exact va_dald (D := Dg) hx hb hK2 hP 0 1 rfl rfl (zi_in (by decide) (by decide) (by decide)) hdg kk
theorem lw_sub {lv lv' : List (Nat × Value)} (h : lv_has ls nL lv) (hs : ∀ q ∈ lv', q ∈ lv) : lv_has ls nL lv' := ⟨h.1, h.2.1, fun q hq => h.2.2 q (hs q hq)⟩
/-- the law's locals -/
abbrev lvL (ad1 ad2 : Nat → Int → Nat) (ao aD b : Nat) (i : Int) : List (Nat × Value) := [(5, .int (zi i)), (4, .ref aD), (3, .ref ao), (2, .ref (ad2 0 0)), (1, .ref (ad1 0 0)), (0, .ref b)]
theorem LW.tau (h : LW Dg cA cL cD ad1 ad2 ao aD σ o d H) : WP Dg ccnt ad1 (cE cA ad1 (ups σ 31 0 0 0)) H := gh (fun _ _ => rfl) h.1
theorem stp_c {P τ : St} {c9 : Int} (h : WP Dg ccnt ad1 (cE cA ad1 (stp c9 P τ)) H) (h2 : WP Dg mcnt ad2 (mE cA ad2 (stp c9 P τ)) H) (hO : va_at Dg vwCl (ao, zlE cL o) H) (hD : va_at Dg vwCl (aD, dlE cD d) H) : LW Dg cA cL cD ad1 ad2 ao aD (stp c9 P τ) o d H := ⟨h, h2, hO, hD⟩
end BASE11
section BASE11B
variable {p : Program} {l : Launch} {e : Env} {R : Room} {s : State} {m : MethodId} {args : Array Value} {below : List Frame} {meth : Method} {c : Code} {H H1 : Heap} {Dg : va_G} {cA : Nat → ClassId} {ad1 ad2 : Nat → Int → Nat} {ao aD h0 : Nat} {E1 E2 : Nat → Int → va_E} {ev : va_E}
/-- a call behind the first object's wrapper leaves the second -/
theorem la_k2 (hA : LA ad1 ad2 ao aD h0) (w2 : WP Dg mcnt ad2 E2 H) (hk : ∀ q : Nat, q < H.size → ¬ WO ad1 ao aD H.size q → H1[q]? = H[q]?) : WP Dg mcnt ad2 E2 H1 := by
  refine wp_kept w2 (fun t i a b z => ?_) hk
  have hlt := w2.lt a b
  rcases z with z | z | ⟨t', i', a', b', z⟩ | z
  · exact (hA.2.2.2.2.1 t i a b).1 z
  · exact (hA.2.2.2.2.1 t i a b).2 z
  · exact hA.2.2.2.1 t' i' t i a' b' a b z.symm
  · omega
/-- a call of the second leaves the first and the boxes -/
theorem la_k1 (hA : LA ad1 ad2 ao aD h0) (w1 : WP Dg ccnt ad1 E1 H) (hk : ∀ q : Nat, q < H.size → ¬ WA mcnt ad2 H.size q → H1[q]? = H[q]?) : WP Dg ccnt ad1 E1 H1 := by
  refine wp_kept w1 (fun t i a b z => ?_) hk
  have hlt := w1.lt a b
  rcases z with ⟨t', i', a', b', z⟩ | z
  · exact hA.2.2.2.1 t i t' i' a b a' b' z
  · omega
theorem la_o (hA : LA ad1 ad2 ao aD h0) (hO : va_at Dg vwCl (ao, ev) H) (hk : ∀ q : Nat, q < H.size → ¬ WA mcnt ad2 H.size q → H1[q]? = H[q]?) : va_at Dg vwCl (ao, ev) H1 :=
  wo_kept (fun t i a b => (hA.2.2.2.2.1 t i a b).1) hO hk
theorem la_d (hA : LA ad1 ad2 ao aD h0) (hD : va_at Dg vwCl (aD, ev) H) (hk : ∀ q : Nat, q < H.size → ¬ WA mcnt ad2 H.size q → H1[q]? = H[q]?) : va_at Dg vwCl (aD, ev) H1 :=
  wo_kept (fun t i a b => (hA.2.2.2.2.1 t i a b).2) hD hk
/-- a call of the first alone -/
theorem la_k2' (hA : LA ad1 ad2 ao aD h0) (w2 : WP Dg mcnt ad2 E2 H) (hk : ∀ q : Nat, q < H.size → ¬ WA ccnt ad1 H.size q → H1[q]? = H[q]?) : WP Dg mcnt ad2 E2 H1 :=
  la_k2 hA w2 (fun q h1 h2 => hk q h1 (fun z => h2 (Or.inr (Or.inr z))))
theorem la_o' (hA : LA ad1 ad2 ao aD h0) (hO : va_at Dg vwCl (ao, ev) H) (hk : ∀ q : Nat, q < H.size → ¬ WA ccnt ad1 H.size q → H1[q]? = H[q]?) : va_at Dg vwCl (ao, ev) H1 :=
  wo_kept (fun t i a b => (hA.2.2.1.2 t i a b).1) hO hk
theorem la_d' (hA : LA ad1 ad2 ao aD h0) (hD : va_at Dg vwCl (aD, ev) H) (hk : ∀ q : Nat, q < H.size → ¬ WA ccnt ad1 H.size q → H1[q]? = H[q]?) : va_at Dg vwCl (aD, ev) H1 :=
  wo_kept (fun t i a b => (hA.2.2.1.2 t i a b).2) hD hk
theorem hbB_rng (n : Int) : 0 ≤ hbB n ∧ hbB n ≤ 1065353216 := by
  unfold hbB
  (repeat' split) <;> omega
theorem six_held (σ : St) : 0 ≤ 6 - held σ (-1) ∧ 6 - held σ (-1) ≤ 6 := by
  have h := cntB_rng (fun d => decide (σ 18 d 0 = -1)) 6
  have e : held σ (-1) = cntB (fun d => decide (σ 18 d 0 = -1)) 6 := rfl
  omega
end BASE11B
