section WRAP
variable {p : Program} {l : Launch} {e : Env} {R : Room} {s : State} {m : MethodId} {args : Array Value} {below : List Frame} {meth : Method} {c : Code} {H : Heap} {locs : List Loc} {cells slots : Nat} {Q : State → Prop} {cc bytes : ByteArray} {pc index maxL n : Nat} {ls : Array Slot} {rest st0 : List Value} {own C : String} {Ts ws ws' : List Cond} {Dg : va_G} {cA : Nat → ClassId} {cL cD : ClassId} {cnt : Nat → Int} {ad : Nat → Int → Nat} {oc : Nat → Nat} {ao aD : Nat} {A : Nat → Prop} {E E' : Nat → Int → va_E} {nL : Nat} {ret0 ret : Option FieldType} {y : MethodName} {rm : Room} {b : Nat} {As : List Value} {o : Int64} {d : UInt64} {hh : List (Nat × Nat × Nat × Nat)}
/-- the exceptions that a handler's row passes over -/
abbrev ncL : List (String × String) := [("java/lang/IllegalArgumentException", "java/lang/IndexOutOfBoundsException"), ("java/lang/IllegalStateException", "java/lang/IndexOutOfBoundsException"), ("java/lang/IllegalStateException", "java/lang/IllegalArgumentException"), ("java/util/NoSuchElementException", "java/lang/IndexOutOfBoundsException")]
def wPre (Dg : va_G) (cA : Nat → ClassId) (ad : Nat → Int → Nat) (oc : Nat → Nat) (E : Nat → Int → va_E) (As : List Value) (sz : Nat) : Array Value → State → Prop :=
  va_Pc As (fun U => U.heap.size = sz ∧ WP Dg ccnt ad E U.heap ∧ va_K Dg vwCl (tyL cA) U ∧ ENV oc (WA ccnt ad sz) U U.heap ∧ ∀ q ∈ ncL, va_Nc q.1 q.2 U)
theorem wPre_blind {sz : Nat} : FrameBlind (wPre Dg cA ad oc E As sz) := by
  intro a U g mk q
  obtain ⟨q0, q1, q2, q3, q4, q5⟩ := q
  exact ⟨q0, q1, q2, va_K.moved (u := U) (U := U.calling g mk a) (Vm.Alike.refl U.vm) q3, ENV.same (u := U) (U := U.calling g mk a) rfl q4, fun q hq => va_Nc.moved (u := U) (U := U.calling g mk a) (Vm.Alike.refl U.vm) (q5 q hq)⟩
/-- a wrapper's contract: what it answers, the object's world behind it -/
abbrev GW (l : Launch) (y : MethodName) (ws : List Cond) (rm : Room) (Dg : va_G) (cA : Nat → ClassId) (ad : Nat → Int → Nat) (oc : Nat → Nat) (E : Nat → Int → va_E) (As : List Value) (v : Int) (E' : Nat → Int → va_E) : Prop :=
  ∀ sz : Nat, Met l y ws rm (wPre Dg cA ad oc E As sz) (va_Qi (fun (r : Int32) (_ : Unit) => r = zi v) (gB Dg ccnt ad E') (WA ccnt ad sz)) 1 6 (WA ccnt ad sz)
abbrev GWD (l : Launch) (y : MethodName) (ws : List Cond) (rm : Room) (Dg : va_G) (cA : Nat → ClassId) (ad : Nat → Int → Nat) (oc : Nat → Nat) (E : Nat → Int → va_E) (As : List Value) (v : UInt64) (E' : Nat → Int → va_E) : Prop :=
  ∀ sz : Nat, Met l y ws rm (wPre Dg cA ad oc E As sz) (va_Qd (fun (r : UInt64) (_ : Unit) => r = v) (gB Dg ccnt ad E') (WA ccnt ad sz)) 1 6 (WA ccnt ad sz)
theorem w_ent {Qc : Array Value → State → Outcome → State → Prop} {sz : Nat} (hy : plainName y.cls = true) (hw : ws = Cond.codeWith y cc maxL ret hh :: ws') (hI : WI ccnt ad) (hlen : (lg_sl As).length ≤ maxL)
    (body : ∀ (p : Program) (e : Env) (s : State) (m : MethodId) (below : List Frame) (meth : Method) (c : Code), KX p c cc s m meth As.toArray y.cls ws Dg cA ccnt ad oc (WA ccnt ad s.heap.size) maxL ret → c.exceptionTable.toList = tableOf hh → (∀ q ∈ ncL, va_Nc q.1 q.2 s) → WP Dg ccnt ad E s.heap → va_S (WA ccnt ad s.heap.size) s.heap s.heap [] → s.heap.size = sz → ∀ ls : Array Slot, lv_has ls maxL (lv_args 0 As) → W p l e (headSpec ws rm).room s m As.toArray below meth c s.heap [] 0 0 (MQ below Qc As.toArray s 1 6 (WA ccnt ad s.heap.size)) (F0 m 0 ls [])) :
    Met l y ws rm (wPre Dg cA ad oc E As sz) Qc 1 6 (WA ccnt ad sz) := by
  refine va_MetW (cc := cc) (maxL := maxL) (ret := ret) (hh := hh) hy hw ?_
  intro p e s m args below meth c s₁ B hml hv
  obtain ⟨rfl, hsz, hW, hK, hE, hNc⟩ := hv
  have hts := atoms_spec (ws := ws) B.pre
  have hl := lv_entry As (n := maxL) hlen
  subst hsz
  rw [lg_entry_eq]
  exact body p e s m below meth c ⟨⟨B.exec, B.bytes, findClass_of_methodNamed B.named, hts, hK, hI, fun t i h0 h1 => Or.inl ⟨t, i, h0, h1, rfl⟩⟩, hml, B.returns, B.notSynchronized, hE, fun q h => Or.inr h⟩ (vx_table (x := y) B (hts _ (by rw [hw]; exact List.mem_cons_self))) hNc hW va_S.rf rfl _ hl
theorem w_ret {v w : Int} (hX : KX p c cc s m meth args own Ts Dg cA ccnt ad oc (WA ccnt ad s.heap.size) nL (some .int)) (hvw : v = w) (hW : WP Dg ccnt ad E H) (hS : va_S (WA ccnt ad s.heap.size) s.heap H locs) (hc : cells ≤ 1) (hs : slots ≤ 6) (hdg : decode cc pc = .ok (.ireturn, 1)) :
    W p l e R s m args below meth c H locs cells slots (MQ below (va_Qi (fun (r : Int32) (_ : Unit) => r = zi w) (gB Dg ccnt ad E) (WA ccnt ad s.heap.size)) args s 1 6 (WA ccnt ad s.heap.size)) (F0 m pc ls [.int (zi v)]) :=
  W.widen (k := 1) (n := 6) hc hs (W.iret (v := zi v) hX.1.1 hX.1.2.1 hX.2.2.1 (fun t ht _ => ⟨⟨_, (), rfl, by rw [hvw], by show WP Dg ccnt ad E t.heap; rw [ht]; exact hW⟩, hS.F ht⟩) hS.2.2 hdg hX.2.2.2.1)
theorem w_retD {v : UInt64} (hX : KX p c cc s m meth args own Ts Dg cA ccnt ad oc (WA ccnt ad s.heap.size) nL (some .double)) (hW : WP Dg ccnt ad E H) (hS : va_S (WA ccnt ad s.heap.size) s.heap H locs) (hc : cells ≤ 1) (hs : slots ≤ 6) (hdg : decode cc pc = .ok (.dreturn, 1)) :
    W p l e R s m args below meth c H locs cells slots (MQ below (va_Qd (fun (r : UInt64) (_ : Unit) => r = v) (gB Dg ccnt ad E) (WA ccnt ad s.heap.size)) args s 1 6 (WA ccnt ad s.heap.size)) (F0 m pc ls [.double v]) :=
  W.widen (k := 1) (n := 6) hc hs (W.dret (v := v) hX.1.1 hX.1.2.1 hX.2.2.1 (fun t ht _ => ⟨⟨_, (), rfl, rfl, by show WP Dg ccnt ad E t.heap; rw [ht]; exact hW⟩, hS.F ht⟩) hS.2.2 hdg hX.2.2.2.1)
/-- a callee's throw, caught by this method's row -/
theorem w_caught {Xn name : String} {ret1 : Option FieldType} (pre : List ExceptionTableEntry) (x : ExceptionTableEntry) (suf : List ExceptionTableEntry) {tgt : Nat} (hX : KX p c cc s m meth args own Ts Dg cA cnt ad oc A nL ret0) (htab : c.exceptionTable.toList = pre ++ x :: suf) (hpass : ∀ z ∈ pre, z.catchType ≠ 0 ∧ ∃ nm : String, (Cond.classLink own z.catchType nm).before args s = true ∧ va_Nc Xn nm s) (hcov : covers x pc = true) (h0 : x.catchType ≠ 0) (hlink : (Cond.classLink own x.catchType Xn).before args s = true) (hcast : Cond.castable Xn Xn ∈ xbL) (htg : x.handlerPc = tgt)
    (hls : ls.size = nL) (hM : GX l y ws rm Dg cA cnt ad oc E (.ref b :: As) Xn) (cw : CallW R s args own C index y bytes maxL ret1 ws rm 1 6 n) (hr : ∃ cell : Cell, H[b]? = some cell ∧ cell.vm.isStatics = false ∧ s.vm.findClass C = some cell.cls) (hW : WP Dg cnt ad E H) (hS : va_S A s.heap H locs) (hf : 1 ≤ R.cells ∧ 6 ≤ R.slots) (hst : st0 = As.reverse ++ .ref b :: rest) (hn : As.length = n) (hcat : (rest.map fun v => v.category).sum ≤ 8) (hdg : decode cc pc = .ok (.invokevirtual index, 3))
    (kk : ∀ (H1 : Heap) (locs1 : List Loc) (q : Nat), WP Dg cnt ad E H1 → va_S A s.heap H1 locs1 → H.size ≤ H1.size → (∀ q : Nat, q < H.size → ¬ WA cnt ad H.size q → H1[q]? = H[q]?) → W p l e R s m args below meth c H1 locs1 (0 + 1) (0 + 6) Q (F0 m tgt ls [.ref q])) :
    W p l e R s m args below meth c H locs 0 0 Q (F0 m pc ls st0) := by
  have hA1 := wa_sub (H0 := H) hX.1.2.2.2.2.2.2 hX.2.2.2.2.2 hS
  have hr1 := vx_runV (As := As) (rest := rest) ⟨hX.1.1, hX.1.2.1, hX.2.1, hX.1.2.2.1, hX.1.2.2.2.1⟩ (hM H.size) cw ⟨gPre_blind, hr, fun U hU hWm => pre_of hX hW hS U hU hWm⟩ rfl hn hls hst (lv_room hcat) hdg (locs := locs) (cells := 0) (slots := 0) (p := p) (e := e) (below := below) (meth := meth) (by omega)
  intro T hT X
  rcases hr1 T hT X with ⟨v, st₀, t, T', L, h0, X', hL, e1, e2, hF, st⟩ | ⟨q, st₀, t, T', L, F, ce, h0', X', hL, e1, e2, ⟨u, hp, ⟨hb1, hb2⟩, hF⟩, hce, hcv, hcl, st⟩
  · exact hF.elim
  · obtain ⟨k1, k2, k3⟩ := vx_keep h0' e1 hS (fun q _ h => hA1 q h) hA1 hL hF
    subst hb1
    have hb2 : WP Dg cnt ad E T'.heap := by rw [e1]; exact hb2
    have h9 := kk T'.heap (locs ++ L) q hb2 k3 k1 k2
    rw [← htg] at h9
    obtain ⟨t2, a1, b1⟩ := vx_catch (p := p) (l := l) (e := e) (R := R) (ls := ls) (rest := rest) (pc := pc) (cells := 0 + 1) (slots := 0 + 6) hX.1.2.2.1 pre x suf htab (fun z hz => Or.inr (hpass z hz)) hcov h0 hlink (xb_move (Vm.Alike.refl _) hX.2.2.2.2.1.2.2.2.2.2.2.2 _ hcast) (by rw [e1]; exact hce) hcv hcl h9 T' rfl X'
    exact ⟨t2, st.trans a1, b1⟩
end WRAP
