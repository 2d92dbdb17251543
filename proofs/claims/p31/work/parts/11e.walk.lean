section FX
variable {l : Launch} {y : MethodName} {ws ws' : List Cond} {rm : Room} {As : List Value} {cc : ByteArray} {maxL : Nat} {ret : Option FieldType}
/-- a method that makes and changes nothing -/
theorem x_ent {P : State → Prop} {Qc : Array Value → State → Outcome → State → Prop} {sz : Nat} (hy : plainName y.cls = true) (hw : ws = Cond.code y cc maxL ret :: ws') (hlen : (lg_sl As).length ≤ maxL)
    (body : ∀ (p : Program) (e : Env) (s : State) (m : MethodId) (below : List Frame) (meth : Method) (c : Code), p.tables.exec = Jvm.exec → c.code = cc → s.vm.findClass y.cls = some m.cls → (∀ w ∈ ws, w.before As.toArray s = true) → c.maxLocals = maxL → meth.sig.returnType = ret → meth.locks = false → s.heap.size = sz → P s → ∀ ls : Array Slot, lv_has ls maxL (lv_args 0 As) → W p l e (headSpec ws rm).room s m As.toArray below meth c s.heap [] 0 0 (MQ below Qc As.toArray s 0 0 (NA s.heap.size)) (F0 m 0 ls [])) :
    Met l y ws rm (va_Pc As (fun U => U.heap.size = sz ∧ P U)) Qc 0 0 (NA sz) := by
  refine Met.ofW (cc := cc) (maxL := maxL) (ret := ret) hy hw ?_
  intro p e s m args below meth c s₁ B hml hv
  obtain ⟨rfl, hsz, hP⟩ := hv
  have hts := atoms_spec (ws := ws) B.pre
  have hl := lv_entry As (n := maxL) hlen
  subst hsz
  rw [lg_entry_eq]
  exact body p e s m below meth c B.exec B.bytes (findClass_of_methodNamed B.named) hts hml B.returns B.notSynchronized rfl hP _ hl
theorem x_entF {P : State → Prop} {Qc : Array Value → State → Outcome → State → Prop} {sz : Nat} (hy : plainFor y = true) (hw : ws = Cond.code y cc maxL ret :: ws') (hlen : (lg_sl As).length ≤ maxL)
    (body : ∀ (p : Program) (e : Env) (s : State) (m : MethodId) (below : List Frame) (meth : Method) (c : Code), p.tables.exec = Jvm.exec → c.code = cc → s.vm.findClass y.cls = some m.cls → (∀ w ∈ ws, w.before As.toArray s = true) → c.maxLocals = maxL → meth.sig.returnType = ret → meth.locks = false → s.heap.size = sz → P s → ∀ ls : Array Slot, lv_has ls maxL (lv_args 0 As) → W p l e (headSpec ws rm).room s m As.toArray below meth c s.heap [] 0 0 (MQ below Qc As.toArray s 0 0 (NA s.heap.size)) (F0 m 0 ls [])) :
    Met l y ws rm (va_Pc As (fun U => U.heap.size = sz ∧ P U)) Qc 0 0 (NA sz) := by
  refine va_MetF (cc := cc) (maxL := maxL) (ret := ret) hy hw ?_
  intro p e s m args below meth c s₁ B hml hv
  obtain ⟨rfl, hsz, hP⟩ := hv
  have hts := atoms_spec (ws := ws) B.pre
  have hl := lv_entry As (n := maxL) hlen
  subst hsz
  rw [lg_entry_eq]
  exact body p e s m below meth c B.exec B.bytes (findClass_of_methodNamed B.named) hts hml B.returns B.notSynchronized rfl hP _ hl
/-- what a contract of that kind answers -/
abbrev XQ (sz : Nat) (post : Int32 → Prop) : Array Value → State → Outcome → State → Prop := va_Qi (fun (r : Int32) (_ : Unit) => post r) (fun (_ : Unit) (_ : State) => True) (NA sz)
theorem va_X.mv {b L : Nat} {xs : Nat → Int32} {u U : State} {H : Heap} (hvm : u.vm.Alike U.vm) (h : va_X b L xs u H) : va_X b L xs U H := by
  obtain ⟨scr, h1, h2, h3⟩ := h
  exact ⟨scr, h1, State.isArrayOf_alike hvm h2, h3⟩
theorem va_X.kp {b L : Nat} {xs : Nat → Int32} {U : State} {H H1 : Heap} (h : va_X b L xs U H) (hk : H1[b]? = H[b]?) : va_X b L xs U H1 := by
  obtain ⟨scr, h1, h2⟩ := h
  exact ⟨scr, hk.trans h1, h2⟩
/-- the law's script, as a callee sees it -/
abbrev PX (b L : Nat) (xs : Nat → Int32) : State → Prop := fun U => va_X b L xs U U.heap ∧ b < U.heap.size
end FX
section FXW
variable {p : Program} {l : Launch} {e : Env} {R : Room} {s : State} {m : MethodId} {args : Array Value} {below : List Frame} {meth : Method} {c : Code} {H : Heap} {locs : List Loc} {cells slots : Nat} {Q : State → Prop} {cc : ByteArray} {pc : Nat} {ls : Array Slot} {rest : List Value} {A : Nat → Prop}
theorem x_ret {post : Int32 → Prop} {r : Int32} {rt : FieldType} (hx : p.tables.exec = Jvm.exec) (hb : c.code = cc) (hrt : meth.sig.returnType = some .int) (hlk : meth.locks = false) (hr : post r) (hS : va_S (NA s.heap.size) s.heap H locs) (hdg : decode cc pc = .ok (.ireturn, 1)) :
    W p l e R s m args below meth c H locs 0 0 (MQ below (XQ s.heap.size post) args s 0 0 (NA s.heap.size)) (F0 m pc ls [.int r]) :=
  W.iret (v := r) hx hb hrt (fun t ht _ => ⟨⟨_, (), rfl, hr, trivial⟩, hS.F ht⟩) hS.2.2 hdg hlk
end FXW
section FXM
set_option maxHeartbeats 2000000 in
theorem n_cell {l : Launch} {b L : Nat} {xs : Nat → Int32} (hL : L ≤ 260) {i : Int} (hi : 0 ≤ i ∧ i < 100000) (sz : Nat) : Met l yL_cell wsL_cell ({ frames := 0, cells := 0, slots := 0, locals := 0 } : Room) (va_Pc [.ref b, .int (zi i)] (fun U => U.heap.size = sz ∧ PX b L xs U)) (XQ sz (fun _ => True)) 0 0 (NA sz) := by
  refine x_ent (cc := cL_cell) (maxL := 3) (ret := some .int) (by decide) rfl (Nat.le_of_ble_eq_true rfl) ?_
  intro p e s m below meth c hx hb hown hts hml hrt hlk hsz hP ls hl
  subst hsz
  obtain ⟨hX, hbl⟩ := hP
  have hl : lv_has ls 3 [(0, .ref b), (1, .int (zi i))] := hl
  have hS : va_S (NA s.heap.size) s.heap s.heap [] := va_S.rf
  have hbA : ¬ NA s.heap.size b := fun z => by have z : s.heap.size ≤ b := z; omega
  have eL : Int32.ofNat L = zi (L : Int) := by rw [zi_nI (by omega)]; rfl
  have tail : ∀ v k : Int32, W p l e (headSpec wsL_cell ({ frames := 0, cells := 0, slots := 0, locals := 0 } : Room)).room s m ([Value.ref b, .int (zi i)] : List Value).toArray below meth c s.heap [] 0 0 (MQ below (XQ s.heap.size (fun _ => True)) ([Value.ref b, .int (zi i)] : List Value).toArray s 0 0 (NA s.heap.size)) (F0 m 15 ls [.int v, .int k]) := by
    intro v k
    refine lv_sipush hx hb dL_cell_15 rfl ?_
    refine lv_iload_n hx hb dL_cell_18 rfl (lv_at hl 1 rfl) ?_
    refine lv_imul hx hb dL_cell_19 ?_
    refine lv_iadd hx hb dL_cell_20 ?_
    refine lv_imul hx hb dL_cell_21 ?_
    refine lv_sipush hx hb dL_cell_22 rfl ?_
    refine lv_iadd hx hb dL_cell_25 ?_
    refine lv_topi (fun y1 _ => ?_)
    refine lv_istore_n (lv' := [(2, .int y1), (0, .ref b), (1, .int (zi i))]) hx hb dL_cell_26 rfl hl (by decide) rfl (fun ls hl => ?_)
    refine lv_iload_n hx hb dL_cell_27 rfl (lv_at hl 0 rfl) ?_
    refine lv_iload_n hx hb dL_cell_28 rfl (lv_at hl 0 rfl) ?_
    refine lv_bipush hx hb dL_cell_29 rfl ?_
    refine lv_iushr hx hb dL_cell_31 rfl ?_
    refine lv_ixor hx hb dL_cell_32 ?_
    refine lv_ldc hx hb hown (hts (.constant RL 8 (1103515245)) (by decide +kernel)) dL_cell_33 ?_
    refine lv_imul hx hb dL_cell_35 ?_
    refine lv_topi (fun y2 _ => ?_)
    refine lv_istore_n (lv' := [(2, .int y2), (0, .ref b), (1, .int (zi i))]) hx hb dL_cell_36 rfl hl (by decide) rfl (fun ls hl => ?_)
    refine lv_iload_n hx hb dL_cell_37 rfl (lv_at hl 0 rfl) ?_
    refine lv_iload_n hx hb dL_cell_38 rfl (lv_at hl 0 rfl) ?_
    refine lv_bipush hx hb dL_cell_39 rfl ?_
    refine lv_iushr hx hb dL_cell_41 rfl ?_
    refine lv_ixor hx hb dL_cell_42 ?_
    exact x_ret (rt := .int) hx hb hrt hlk trivial hS dL_cell_43
  refine lv_ldc hx hb hown (hts (.constant RL 7 (69069)) (by decide +kernel)) dL_cell_0 ?_
  refine lv_iload_n hx hb dL_cell_2 rfl (lv_at hl 1 rfl) ?_
  refine lv_aload_n hx hb dL_cell_3 rfl (lv_at hl 0 rfl) ?_
  refine va_slen hx hb hX hbl hbA hS dL_cell_4 ?_
  rw [eL]
  refine lv_icmp_ge (tgt := 14) hx hb dL_cell_5 (by decide) (fun _ => ?_) (fun z => ?_)
  · refine lv_iconst (v := 0) hx hb dL_cell_14 (by decide) ?_
    exact tail _ _
  · have z1 : i < L := by
      rcases Int.lt_or_le i (L : Int) with q | q
      · exact q
      · exact absurd ((zi_le ⟨by omega, by omega⟩ ⟨by omega, by omega⟩).mpr q) z
    refine lv_aload_n hx hb dL_cell_8 rfl (lv_at hl 0 rfl) ?_
    refine lv_iload_n hx hb dL_cell_9 rfl (lv_at hl 1 rfl) ?_
    refine va_sld hx hb hX hbl hbA hS (zi_in hi.1 z1 (by omega)) dL_cell_10 ?_
    refine lv_goto (tgt := 15) hx hb dL_cell_11 (by decide) ?_
    exact tail _ _
set_option maxHeartbeats 2000000 in
theorem n_in {l : Launch} {b L : Nat} {xs : Nat → Int32} (hL : L ≤ 260) {i n : Int} (hi : 0 ≤ i ∧ i < 100000) (hn : 1 ≤ n ∧ n < 100000) (sz : Nat) : Met l yL_in wsL_in ({ frames := 1, cells := 0, slots := 0, locals := 22 } : Room) (va_Pc [.ref b, .int (zi i), .int (zi n)] (fun U => U.heap.size = sz ∧ PX b L xs U)) (XQ sz (fun r => ∃ k : Int, 0 ≤ k ∧ k < n ∧ r = zi k)) 0 0 (NA sz) := by
  refine x_ent (cc := cL_in) (maxL := 3) (ret := some .int) (by decide) rfl (Nat.le_of_ble_eq_true rfl) ?_
  intro p e s m below meth c hx hb hown hts hml hrt hlk hsz hP ls hl
  subst hsz
  obtain ⟨hX, hbl⟩ := hP
  have hl : lv_has ls 3 [(0, .ref b), (1, .int (zi i)), (2, .int (zi n))] := hl
  have hS : va_S (NA s.heap.size) s.heap s.heap [] := va_S.rf
  refine lv_aload_n hx hb dL_in_0 rfl (lv_at hl 0 rfl) ?_
  refine lv_iload_n hx hb dL_in_1 rfl (lv_at hl 1 rfl) ?_
  refine va_calli (va_runS (As := [.ref b, .int (zi i)]) (rest := []) ⟨hx, hb, hml, hown, hts⟩ (n_cell (l := l) (xs := xs) hL hi s.heap.size) (cwS 2 hts gL_in_L_cell rfl rfl rfl (by decide +kernel) ⟨Nat.le_of_ble_eq_true rfl, Nat.le_of_ble_eq_true rfl⟩) ⟨fun a U g mk q => by obtain ⟨q0, q1, q2, q3⟩ := q; exact ⟨q0, q1, va_X.mv (u := U) (U := U.calling g mk a) (Vm.Alike.refl U.vm) q2, q3⟩, fun U hU hWm => ⟨rfl, by rw [hU], va_X.mv hWm.alike (by rw [hU]; exact hX), by rw [hU]; exact hbl⟩⟩ rfl rfl hl.1 rfl (lv_room (Nat.le_of_ble_eq_true rfl)) dL_in_2 ⟨Nat.zero_le _, Nat.zero_le _⟩) hS (fun q _ h => h) (fun q h => h) (fun r u t H1 locs1 ht _ _ _ hz hk hS => ?_)
  refine lv_ldc hx hb hown (hts (.constant RL 84 (2147483647)) (by decide +kernel)) dL_in_5 ?_
  refine lv_iand hx hb dL_in_7 ?_
  obtain ⟨j, hj, ej⟩ := pk_andE r (m := 2147483647) 31 (by decide)
  rw [ej]
  refine lv_iload_n hx hb dL_in_8 rfl (lv_at hl 2 rfl) ?_
  rw [zi_nI (show 0 ≤ n by omega)]
  refine lv_irem hx hb dL_in_9 (by rw [← zi_nI (show 0 ≤ n by omega), z0, zi_eq ⟨by omega, by omega⟩ sm0]; omega) ?_
  rw [pk_rem hj (by omega) (by omega)]
  have hmod : j % n.toNat < n.toNat := Nat.mod_lt _ (by omega)
  exact x_ret (rt := .int) (R := (headSpec wsL_in ({ frames := 1, cells := 0, slots := 0, locals := 22 } : Room)).room) hx hb hrt hlk ⟨((j % n.toNat : Nat) : Int), by omega, by omega, by rw [zi_nI (by omega)]; rfl⟩ hS dL_in_10
end FXM
