section BASE8
variable {p : Program} {l : Launch} {e : Env} {R : Room} {s : State} {m : MethodId} {args : Array Value} {below : List Frame} {meth : Method} {c : Code} {H : Heap} {locs : List Loc} {cells slots : Nat} {Q : State → Prop} {cc bytes : ByteArray} {pc index maxL n : Nat} {ls : Array Slot} {rest st0 : List Value} {own C : String} {Ts ws ws' : List Cond} {Dg : va_G} {cA : Nat → ClassId} {cL cD : ClassId} {cnt : Nat → Int} {ad : Nat → Int → Nat} {oc : Nat → Nat} {ao aD : Nat} {A : Nat → Prop} {E E' : Nat → Int → va_E} {nL : Nat} {ret0 ret : Option FieldType} {y : MethodName} {rm : Room} {b : Nat} {As : List Value} {o : Int64} {d : UInt64} {hh : List (Nat × Nat × Nat × Nat)}
/-- the law's two boxes for a result -/
def zlE (cL : ClassId) (o : Int64) : va_E := .inl (cL, 1, .inr (.inl (fun _ => o)))
def dlE (cD : ClassId) (d : UInt64) : va_E := .inl (cD, 1, .inr (.inr (.inr (.inl (fun _ => d)))))
abbrev tyX (cL cD : ClassId) : List (ClassId × FieldType) := [(cL, .long), (cD, .double)]
/-- what a call behind the law's wrapper may change -/
def WO (ad : Nat → Int → Nat) (ao aD : Nat) (sz : Nat) : Nat → Prop := fun q => q = ao ∨ q = aD ∨ WA ccnt ad sz q
def WN (ad : Nat → Int → Nat) (ao aD : Nat) : Prop := ao ≠ aD ∧ ∀ (t : Nat) (i : Int), 0 ≤ i → i < ccnt t → ad t i ≠ ao ∧ ad t i ≠ aD
/-- the exceptions that a handler's row passes over -/
abbrev ncL : List (String × String) := [("java/lang/IllegalArgumentException", "java/lang/IndexOutOfBoundsException"), ("java/lang/IllegalStateException", "java/lang/IndexOutOfBoundsException"), ("java/lang/IllegalStateException", "java/lang/IllegalArgumentException"), ("java/util/NoSuchElementException", "java/lang/IndexOutOfBoundsException")]
def wPre (Dg : va_G) (cA : Nat → ClassId) (cL cD : ClassId) (ad : Nat → Int → Nat) (oc : Nat → Nat) (ao aD : Nat) (E : Nat → Int → va_E) (o : Int64) (d : UInt64) (As : List Value) (sz : Nat) : Array Value → State → Prop :=
  va_Pc As (fun U => U.heap.size = sz ∧ WP Dg ccnt ad E U.heap ∧ va_at Dg vwCl (ao, zlE cL o) U.heap ∧ va_at Dg vwCl (aD, dlE cD d) U.heap ∧ va_K Dg vwCl (tyL cA) U ∧ va_K Dg vwCl (tyX cL cD) U ∧ ENV oc (WO ad ao aD sz) U U.heap ∧ ∀ q ∈ ncL, va_Nc q.1 q.2 U)
def wB (Dg : va_G) (cL cD : ClassId) (ad : Nat → Int → Nat) (ao aD : Nat) (E : Nat → Int → va_E) (o : Int64) (d : UInt64) : Unit → State → Prop := fun _ t => WP Dg ccnt ad E t.heap ∧ va_at Dg vwCl (ao, zlE cL o) t.heap ∧ va_at Dg vwCl (aD, dlE cD d) t.heap
theorem wPre_blind {sz : Nat} : FrameBlind (wPre Dg cA cL cD ad oc ao aD E o d As sz) := by
  intro a U g mk q
  obtain ⟨q0, q1, q2, q3, q4, q5, q6, q7, q8⟩ := q
  exact ⟨q0, q1, q2, q3, q4, va_K.moved (u := U) (U := U.calling g mk a) (Vm.Alike.refl U.vm) q5, va_K.moved (u := U) (U := U.calling g mk a) (Vm.Alike.refl U.vm) q6, ENV.same (u := U) (U := U.calling g mk a) rfl q7, fun q hq => va_Nc.moved (u := U) (U := U.calling g mk a) (Vm.Alike.refl U.vm) (q8 q hq)⟩
/-- a wrapper's contract: the code that it answers, the object's world behind it, what lies in the boxes -/
abbrev GW (l : Launch) (y : MethodName) (ws : List Cond) (rm : Room) (Dg : va_G) (cA : Nat → ClassId) (cL cD : ClassId) (ad : Nat → Int → Nat) (oc : Nat → Nat) (ao aD : Nat) (E : Nat → Int → va_E) (o : Int64) (d : UInt64) (As : List Value) (v : Int) (E' : Nat → Int → va_E) (o' : Int64) (d' : UInt64) : Prop :=
  ∀ sz : Nat, Met l y ws rm (wPre Dg cA cL cD ad oc ao aD E o d As sz) (va_Qi (fun (r : Int32) (_ : Unit) => r = zi v) (wB Dg cL cD ad ao aD E' o' d') (WO ad ao aD sz)) 1 6 (WO ad ao aD sz)
theorem w_ent {Qc : Array Value → State → Outcome → State → Prop} {sz : Nat} (hy : plainName y.cls = true) (hw : ws = Cond.codeWith y cc maxL ret hh :: ws') (hI : WI ccnt ad) (hlen : (lg_sl As).length ≤ maxL)
    (body : ∀ (p : Program) (e : Env) (s : State) (m : MethodId) (below : List Frame) (meth : Method) (c : Code), KX p c cc s m meth As.toArray y.cls ws Dg cA ccnt ad oc (WO ad ao aD s.heap.size) maxL ret → c.exceptionTable.toList = tableOf hh → va_K Dg vwCl (tyX cL cD) s → (∀ q ∈ ncL, va_Nc q.1 q.2 s) → WP Dg ccnt ad E s.heap → va_at Dg vwCl (ao, zlE cL o) s.heap → va_at Dg vwCl (aD, dlE cD d) s.heap → va_S (WO ad ao aD s.heap.size) s.heap s.heap [] → s.heap.size = sz → ∀ ls : Array Slot, lv_has ls maxL (lv_args 0 As) → W p l e (headSpec ws rm).room s m As.toArray below meth c s.heap [] 0 0 (MQ below Qc As.toArray s 1 6 (WO ad ao aD s.heap.size)) (F0 m 0 ls [])) :
    Met l y ws rm (wPre Dg cA cL cD ad oc ao aD E o d As sz) Qc 1 6 (WO ad ao aD sz) := by
  refine va_MetW (cc := cc) (maxL := maxL) (ret := ret) (hh := hh) hy hw ?_
  intro p e s m args below meth c s₁ B hml hv
  obtain ⟨rfl, hsz, hW, hO, hD, hK, hK2, hE, hNc⟩ := hv
  have hts := atoms_spec (ws := ws) B.pre
  have hl := lv_entry As (n := maxL) hlen
  subst hsz
  rw [lg_entry_eq]
  exact body p e s m below meth c ⟨⟨B.exec, B.bytes, findClass_of_methodNamed B.named, hts, hK, hI, fun t i h0 h1 => Or.inr (Or.inr (Or.inl ⟨t, i, h0, h1, rfl⟩))⟩, hml, B.returns, B.notSynchronized, hE, fun q h => Or.inr (Or.inr (Or.inr h))⟩ (vx_table (x := y) B (hts _ (by rw [hw]; exact List.mem_cons_self))) hK2 hNc hW hO hD va_S.rf rfl _ hl
/-- a cell that isn't of the object's world stays -/
theorem wo_kept {cnt : Nat → Int} {a : Nat} {ev : va_E} {H1 : Heap} (hn : ∀ (t : Nat) (i : Int), 0 ≤ i → i < cnt t → ad t i ≠ a) (hO : va_at Dg vwCl (a, ev) H) (hk : ∀ q : Nat, q < H.size → ¬ WA cnt ad H.size q → H1[q]? = H[q]?) : va_at Dg vwCl (a, ev) H1 := by
  refine hO.kept (hk _ hO.lt (fun z => ?_))
  have h9 : a < H.size := hO.lt
  rcases z with ⟨t, i, h0, h1, e⟩ | z
  · exact hn t i h0 h1 e.symm
  · have z : H.size ≤ a := z
    omega
theorem w_last {v : Int64} (hC : CX p c cc s m args own Ts Dg cA ccnt ad A) (hK2 : va_K Dg vwCl (tyX cL cD) s) (hN : WN ad ao aD) (hA : A ao) (hW : WP Dg ccnt ad E H) (hO : va_at Dg vwCl (ao, zlE cL o) H) (hD : va_at Dg vwCl (aD, dlE cD d) H) (hS : va_S A s.heap H locs) (hdg : decode cc pc = .ok (.lastore, 1))
    (kk : ∀ (H1 : Heap) (locs1 : List Loc), WP Dg ccnt ad E H1 → va_at Dg vwCl (ao, zlE cL v) H1 → va_at Dg vwCl (aD, dlE cD d) H1 → va_S A s.heap H1 locs1 → W p l e R s m args below meth c H1 locs1 cells slots Q (F0 m (pc + 1) ls rest)) : W p l e R s m args below meth c H locs cells slots Q (F0 m pc ls (.long v :: .int (zi 0) :: .ref ao :: rest)) := by
  refine W.last hC.1 hC.2.1 hO ((hK2.2 0 _ rfl).1 1 (fun _ => .long o)) (fun q => by cases q) (by show ¬ (zi 0 < 0 ∨ (arrV _ _ _).slots.size ≤ _); rw [arrV_size]; exact (by decide : ¬ (zi 0 < 0 ∨ 1 ≤ (zi 0).toNatClampNeg))) rfl rfl hdg fun H1 e9 z oq => ?_
  refine kk H1 _ (hW.kept (fun t i h0 h1 => oq _ (hN.2 t i h0 h1).1)) ?_ (hD.kept (oq _ hN.1.symm)) (hS.put z oq hA)
  show H1[ao]? = some (vp_cell _ _)
  rw [e9]
  rw [vp_cell_l, vp_cell_l, arrV_store]
  congr 1
theorem w_dast {v : UInt64} (hC : CX p c cc s m args own Ts Dg cA ccnt ad A) (hK2 : va_K Dg vwCl (tyX cL cD) s) (hN : WN ad ao aD) (hA : A aD) (hW : WP Dg ccnt ad E H) (hO : va_at Dg vwCl (ao, zlE cL o) H) (hD : va_at Dg vwCl (aD, dlE cD d) H) (hS : va_S A s.heap H locs) (hdg : decode cc pc = .ok (.dastore, 1))
    (kk : ∀ (H1 : Heap) (locs1 : List Loc), WP Dg ccnt ad E H1 → va_at Dg vwCl (ao, zlE cL o) H1 → va_at Dg vwCl (aD, dlE cD v) H1 → va_S A s.heap H1 locs1 → W p l e R s m args below meth c H1 locs1 cells slots Q (F0 m (pc + 1) ls rest)) : W p l e R s m args below meth c H locs cells slots Q (F0 m pc ls (.double v :: .int (zi 0) :: .ref aD :: rest)) := by
  refine W.dast hC.1 hC.2.1 hD ((hK2.2 1 _ rfl).1 1 (fun _ => .double d)) (fun q => by cases q) (by show ¬ (zi 0 < 0 ∨ (arrV _ _ _).slots.size ≤ _); rw [arrV_size]; exact (by decide : ¬ (zi 0 < 0 ∨ 1 ≤ (zi 0).toNatClampNeg))) rfl rfl hdg fun H1 e9 z oq => ?_
  refine kk H1 _ (hW.kept (fun t i h0 h1 => oq _ (hN.2 t i h0 h1).2)) (hO.kept (oq _ hN.1)) ?_ (hS.put z oq hA)
  show H1[aD]? = some (vp_cell _ _)
  rw [e9]
  rw [vp_cell_d, vp_cell_d, arrV_store]
  congr 1
theorem w_ret {v : Int} (hX : KX p c cc s m meth args own Ts Dg cA ccnt ad oc (WO ad ao aD s.heap.size) nL (some .int)) (hW : WP Dg ccnt ad E H) (hO : va_at Dg vwCl (ao, zlE cL o) H) (hD : va_at Dg vwCl (aD, dlE cD d) H) (hS : va_S (WO ad ao aD s.heap.size) s.heap H locs) (hc : cells ≤ 1) (hs : slots ≤ 6) (hdg : decode cc pc = .ok (.ireturn, 1)) :
    W p l e R s m args below meth c H locs cells slots (MQ below (va_Qi (fun (r : Int32) (_ : Unit) => r = zi v) (wB Dg cL cD ad ao aD E o d) (WO ad ao aD s.heap.size)) args s 1 6 (WO ad ao aD s.heap.size)) (F0 m pc ls [.int (zi v)]) :=
  W.widen (k := 1) (n := 6) hc hs (W.iret (v := zi v) hX.1.1 hX.1.2.1 hX.2.2.1 (fun t ht _ => ⟨⟨_, (), rfl, rfl, by show WP Dg ccnt ad E t.heap ∧ va_at Dg vwCl (ao, zlE cL o) t.heap ∧ va_at Dg vwCl (aD, dlE cD d) t.heap; rw [ht]; exact ⟨hW, hO, hD⟩⟩, hS.F ht⟩) hS.2.2 hdg hX.2.2.2.1)
/-- a callee's throw, caught by this method's row -/
theorem w_caught {Xn name : String} {ret1 : Option FieldType} (pre : List ExceptionTableEntry) (x : ExceptionTableEntry) (suf : List ExceptionTableEntry) {tgt : Nat} (hX : KX p c cc s m meth args own Ts Dg cA cnt ad oc A nL ret0) (htab : c.exceptionTable.toList = pre ++ x :: suf) (hpass : ∀ z ∈ pre, z.catchType ≠ 0 ∧ ∃ nm : String, (Cond.classLink own z.catchType nm).before args s = true ∧ va_Nc Xn nm s) (hcov : covers x pc = true) (h0 : x.catchType ≠ 0) (hlink : (Cond.classLink own x.catchType Xn).before args s = true) (hcast : Cond.castable Xn Xn ∈ xbL) (htg : x.handlerPc = tgt)
    (hls : ls.size = nL) (hM : GX l y ws rm Dg cA cnt ad oc E (.ref b :: As) Xn) (cw : CallW R s args own C index y bytes maxL ret1 ws rm 1 6 n) (hr : ∃ cell : Cell, H[b]? = some cell ∧ cell.vm.isStatics = false ∧ s.vm.findClass C = some cell.cls) (hW : WP Dg cnt ad E H) (hS : va_S A s.heap H locs) (hf : 1 ≤ R.cells ∧ 6 ≤ R.slots) (hst : st0 = As.reverse ++ .ref b :: rest) (hn : As.length = n) (hcat : (rest.map fun v => v.category).sum ≤ 8) (hdg : decode cc pc = .ok (.invokevirtual index, 3))
    (kk : ∀ (H1 : Heap) (locs1 : List Loc) (q : Nat), WP Dg cnt ad E H1 → va_S A s.heap H1 locs1 → H.size ≤ H1.size → (∀ q : Nat, q < H.size → ¬ WA cnt ad H.size q → H1[q]? = H[q]?) → W p l e R s m args below meth c H1 locs1 (0 + 1) (0 + 6) Q (F0 m tgt ls [.ref q])) :
    W p l e R s m args below meth c H locs 0 0 Q (F0 m pc ls st0) := by
  have hA1 := wa_sub (H0 := H) hX.1.2.2.2.2.2.2 hX.2.2.2.2.2 hS
  have hr1 := vx_runV (As := As) (rest := rest) ⟨hX.1.1, hX.1.2.1, hX.2.1, hX.1.2.2.1, hX.1.2.2.2.1⟩ (hM H.size) cw ⟨gPre_blind, hr, fun U hU hWm => pre_of hX hW hS U hU hWm⟩ rfl hn hls hst (lv_room hcat) hdg (locs := locs) (cells := 0) (slots := 0) (p := p) (e := e) (below := below) (meth := meth) (by omega)
  intro T hT X
  rcases hr1 T hT X with ⟨v, st₀, t, T', L, h0, X', hL, e1, e2, hF, st⟩ | ⟨q, st₀, t, T', L, F, ce, h0', X', hL, e1, e2, ⟨u, hp, ⟨hb1, hb2⟩, hF⟩, hce, hcv, hcl, st⟩
  · exact hF.elim
  · obtain ⟨k1, k2, k3⟩ := vx_keep h0' e1 hS (fun q _ h => hA1 q h) hA1 hL hF
    subst hb1
    have hb2 : WP Dg cnt ad E T'.heap := by rw [e1]; exact hb2
    have h9 := kk T'.heap (locs ++ L) q hb2 k3 k1 k2
    rw [← htg] at h9
    obtain ⟨t2, a1, b1⟩ := vx_catch (p := p) (l := l) (e := e) (R := R) (ls := ls) (rest := rest) (pc := pc) (cells := 0 + 1) (slots := 0 + 6) hX.1.2.2.1 pre x suf htab (fun z hz => Or.inr (hpass z hz)) hcov h0 hlink (xb_move (Vm.Alike.refl _) hX.2.2.2.2.1.2.2.2.2.2.2.2 _ hcast) (by rw [e1]; exact hce) hcv hcl h9 T' rfl X'
    exact ⟨t2, st.trans a1, b1⟩
theorem k_callD {v : UInt64} (hX : KX p c cc s m meth args own Ts Dg cA cnt ad oc A nL ret0) (hls : ls.size = nL) (hM : GD l y ws rm Dg cA cnt ad oc E (.ref b :: As) v E') (cw : CallW R s args own C index y bytes maxL (some .double) ws rm 0 0 n) (hr : ∃ cell : Cell, H[b]? = some cell ∧ cell.vm.isStatics = false ∧ s.vm.findClass C = some cell.cls) (hW : WP Dg cnt ad E H) (hS : va_S A s.heap H locs) (hf : cells ≤ R.cells ∧ slots ≤ R.slots) (hst : st0 = As.reverse ++ .ref b :: rest) (hn : As.length = n) (hcat : (rest.map fun v => v.category).sum ≤ 8) (hdg : decode cc pc = .ok (.invokevirtual index, 3))
    (kk : ∀ (H1 : Heap) (locs1 : List Loc), WP Dg cnt ad E' H1 → va_S A s.heap H1 locs1 → H.size ≤ H1.size → (∀ q : Nat, q < H.size → ¬ WA cnt ad H.size q → H1[q]? = H[q]?) → W p l e R s m args below meth c H1 locs1 cells slots Q (F0 m (pc + 3) ls (.double v :: rest))) : W p l e R s m args below meth c H locs cells slots Q (F0 m pc ls st0) := by
  have hA1 := wa_sub (H0 := H) hX.1.2.2.2.2.2.2 hX.2.2.2.2.2 hS
  refine va_calld (va_runV (As := As) (rest := rest) ⟨hX.1.1, hX.1.2.1, hX.2.1, hX.1.2.2.1, hX.1.2.2.2.1⟩ (hM H.size) cw ⟨gPre_blind, hr, fun U hU hWm => pre_of hX hW hS U hU hWm⟩ rfl hn hls hst (lv_room hcat) hdg hf) hS (fun q _ h => hA1 q h) hA1 (fun r u t H1 locs1 ht _ hp hB hz hk hS1 => ?_)
  have hB : WP Dg cnt ad E' t.heap := hB
  rw [ht] at hB
  have hp : r = v := hp
  subst hp
  exact kk H1 locs1 hB hS1 hz hk
end BASE8
