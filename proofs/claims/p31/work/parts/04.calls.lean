section BASE2
/-- the strings that the object's throws load -/
abbrev strL : List (Nat × String) := [(50, "there are 8 lists"), (64, "no such place"), (80, "the number is out of its range"), (83, "the list has 20 lines"), (102, "there are 6 kiosks"), (111, "the kiosk has a player"), (167, "no such player"), (190, "the number of ticks is out of range"), (201, "no slide was shown"), (245, "there are no visitors"), (258, "no such list"), (260, "no such kiosk"), (262, "the kiosk has no player"), (270, "no such kind")]
/-- words of the throws that no method's own list holds -/
abbrev xbL : List Cond := [.declares (Bundle.initS "java/lang/RuntimeException"), .declares (Bundle.initS "java/lang/Exception"), .declares (Bundle.initS "java/lang/Throwable"), .castable "java/lang/IndexOutOfBoundsException" "java/lang/IndexOutOfBoundsException", .castable "java/lang/IllegalArgumentException" "java/lang/IllegalArgumentException", .castable "java/lang/IllegalStateException" "java/lang/IllegalStateException", .castable "java/util/NoSuchElementException" "java/util/NoSuchElementException", .castable "java/lang/ArithmeticException" "java/lang/ArithmeticException"]
theorem xb_castable {u U : State} {a b : String} {as as' : Array Value} (hal : u.vm.Alike U.vm) (h : (Cond.castable a b).before as u = true) : (Cond.castable a b).before as' U = true := by
  unfold Cond.before at h ⊢
  simp only [Cond.holds, Cond.value] at h ⊢
  rw [hal.findClass, hal.findClass]
  simp only [hal.assignable]
  exact h
theorem xb_declares {u U : State} {x : MethodName} {as as' : Array Value} (hal : u.vm.Alike U.vm) (h : (Cond.declares x).before as u = true) : (Cond.declares x).before as' U = true := by
  have e1 : U.methodNamed? x = u.methodNamed? x := State.methodNamed?_setVm (s := u) hal x
  have e2 : U.vm.method? = u.vm.method? := by rw [← Vm.method?_bare U.vm, hal.bare_eq, Vm.method?_bare]
  unfold Cond.before at h ⊢
  simp only [Cond.holds, Cond.value] at h ⊢
  rw [e1, e2]
  exact h
theorem xb_move {u U : State} {as as' : Array Value} (hal : u.vm.Alike U.vm) (h : ∀ w ∈ xbL, w.before as u = true) : ∀ w ∈ xbL, w.before as' U = true := by
  intro w hw
  have hq := h w hw
  simp only [xbL, List.mem_cons, List.not_mem_nil, or_false] at hw
  rcases hw with rfl | rfl | rfl | rfl | rfl | rfl | rfl | rfl
  · exact xb_declares hal hq
  · exact xb_declares hal hq
  · exact xb_declares hal hq
  · exact xb_castable hal hq
  · exact xb_castable hal hq
  · exact xb_castable hal hq
  · exact xb_castable hal hq
  · exact xb_castable hal hq
/-- what the calls need of the machine beside the worlds: the three outcomes, two statics of the throws, the texts -/
def ENV (oc : Nat → Nat) (A : Nat → Prop) (U : State) (H : Heap) : Prop :=
  va_Z "KioskReel$Outcome" "GOES_ON" "LKioskReel$Outcome;" (.ref (oc 0)) A U H ∧ va_Z "KioskReel$Outcome" "SHOWN" "LKioskReel$Outcome;" (.ref (oc 1)) A U H ∧ va_Z "KioskReel$Outcome" "ENDS_TURN" "LKioskReel$Outcome;" (.ref (oc 2)) A U H ∧ (oc 0 ≠ oc 1 ∧ oc 0 ≠ oc 2 ∧ oc 1 ≠ oc 2) ∧
  vx_Zq Bundle.tN "UNASSIGNED_STACK" Bundle.steD A U H ∧ vx_Zq Bundle.tN "SUPPRESSED_SENTINEL" Bundle.listD A U H ∧ (∀ q ∈ strL, ∃ a : Nat, vk_R "KioskReel" q.1 q.2 a U) ∧ ∀ w ∈ xbL, w.before #[] U = true
theorem ENV.same {oc : Nat → Nat} {A : Nat → Prop} {u U : State} {H : Heap} (hv : U.vm = u.vm) (h : ENV oc A u H) : ENV oc A U H := by
  obtain ⟨h1, h2, h3, h4, h5, h6, h7, h8⟩ := h
  have hal : u.vm.Alike U.vm := by rw [hv]; exact Vm.Alike.refl _
  exact ⟨h1.moved hal, h2.moved hal, h3.moved hal, h4, h5.moved hal, h6.moved hal, fun q hq => by obtain ⟨a, ha⟩ := h7 q hq; exact ⟨a, ha.same hv⟩, xb_move hal h8⟩
theorem ENV.call {oc : Nat → Nat} {A A1 : Nat → Prop} {s U : State} {H : Heap} {locs : List Loc} (h : ENV oc A s s.heap) (hS : va_S A s.heap H locs) (hA : ∀ q, A1 q → A q) (hW : s.WarmedH U.vm) : ENV oc A1 U H := by
  obtain ⟨h1, h2, h3, h4, h5, h6, h7, h8⟩ := h
  have hk : ∀ a : Nat, a < s.heap.size → ¬ A a → H[a]? = s.heap[a]? := hS.2.1
  exact ⟨((h1.kept hk).narrow hA).moved hW.alike, ((h2.kept hk).narrow hA).moved hW.alike, ((h3.kept hk).narrow hA).moved hW.alike, h4, ((h5.kept hk).narrow hA).moved hW.alike, ((h6.kept hk).narrow hA).moved hW.alike, fun q hq => by obtain ⟨a, ha⟩ := h7 q hq; exact ⟨a, ha.warm hW⟩, xb_move hW.alike h8⟩
/-- a method's start: its object's world, the rest of the machine -/
def gPre (Dg : va_G) (cA : Nat → ClassId) (cnt : Nat → Int) (ad : Nat → Int → Nat) (oc : Nat → Nat) (E : Nat → Int → va_E) (As : List Value) (sz : Nat) : Array Value → State → Prop :=
  va_Pc As (fun U => U.heap.size = sz ∧ WP Dg cnt ad E U.heap ∧ va_K Dg vwCl (tyL cA) U ∧ ENV oc (WA cnt ad sz) U U.heap)
def gB (Dg : va_G) (cnt : Nat → Int) (ad : Nat → Int → Nat) (E : Nat → Int → va_E) : Unit → State → Prop := fun _ t => WP Dg cnt ad E t.heap
theorem gPre_blind {Dg : va_G} {cA : Nat → ClassId} {cnt : Nat → Int} {ad : Nat → Int → Nat} {oc : Nat → Nat} {E : Nat → Int → va_E} {As : List Value} {sz : Nat} : FrameBlind (gPre Dg cA cnt ad oc E As sz) := by
  intro a U g mk q
  obtain ⟨q0, q1, q2, q3, q4⟩ := q
  exact ⟨q0, q1, q2, va_K.moved (u := U) (U := U.calling g mk a) (Vm.Alike.refl U.vm) q3, ENV.same (u := U) (U := U.calling g mk a) rfl q4⟩
/-- contracts: an int, nothing, a long, an outcome -/
abbrev GI (l : Launch) (y : MethodName) (ws : List Cond) (rm : Room) (Dg : va_G) (cA : Nat → ClassId) (cnt : Nat → Int) (ad : Nat → Int → Nat) (oc : Nat → Nat) (E : Nat → Int → va_E) (As : List Value) (v : Int) (E' : Nat → Int → va_E) : Prop :=
  ∀ sz : Nat, Met l y ws rm (gPre Dg cA cnt ad oc E As sz) (va_Qi (fun (r : Int32) (_ : Unit) => r = zi v) (gB Dg cnt ad E') (WA cnt ad sz)) 0 0 (WA cnt ad sz)
abbrev GV (l : Launch) (y : MethodName) (ws : List Cond) (rm : Room) (Dg : va_G) (cA : Nat → ClassId) (cnt : Nat → Int) (ad : Nat → Int → Nat) (oc : Nat → Nat) (E : Nat → Int → va_E) (As : List Value) (E' : Nat → Int → va_E) : Prop :=
  ∀ sz : Nat, Met l y ws rm (gPre Dg cA cnt ad oc E As sz) (va_Qv (fun _ : Unit => True) (gB Dg cnt ad E') (WA cnt ad sz)) 0 0 (WA cnt ad sz)
abbrev GL (l : Launch) (y : MethodName) (ws : List Cond) (rm : Room) (Dg : va_G) (cA : Nat → ClassId) (cnt : Nat → Int) (ad : Nat → Int → Nat) (oc : Nat → Nat) (E : Nat → Int → va_E) (As : List Value) (v : Int) (E' : Nat → Int → va_E) : Prop :=
  ∀ sz : Nat, Met l y ws rm (gPre Dg cA cnt ad oc E As sz) (va_Ql (fun (r : Int64) (_ : Unit) => r = zl v) (gB Dg cnt ad E') (WA cnt ad sz)) 0 0 (WA cnt ad sz)
abbrev GR (l : Launch) (y : MethodName) (ws : List Cond) (rm : Room) (Dg : va_G) (cA : Nat → ClassId) (cnt : Nat → Int) (ad : Nat → Int → Nat) (oc : Nat → Nat) (E : Nat → Int → va_E) (As : List Value) (v : Nat) (E' : Nat → Int → va_E) : Prop :=
  ∀ sz : Nat, Met l y ws rm (gPre Dg cA cnt ad oc E As sz) (va_Qr (fun _ : Unit => True) (fun (_ : Unit) (a : Nat) (t : State) => a = oc v ∧ WP Dg cnt ad E' t.heap) (WA cnt ad sz)) 0 0 (WA cnt ad sz)
/-- a contract that throws the class of that name, its world as it was -/
abbrev GX (l : Launch) (y : MethodName) (ws : List Cond) (rm : Room) (Dg : va_G) (cA : Nat → ClassId) (cnt : Nat → Int) (ad : Nat → Int → Nat) (oc : Nat → Nat) (E : Nat → Int → va_E) (As : List Value) (X : String) : Prop :=
  ∀ sz : Nat, vx_Met l y ws rm (gPre Dg cA cnt ad oc E As sz) (fun _ _ _ _ => False) (vx_X (fun _ : Unit => True) (fun (F : String) (_ : Unit) (t : State) => F = X ∧ WP Dg cnt ad E t.heap) (WA cnt ad sz)) 1 6 (WA cnt ad sz)
/-- the state of a walk -/
def KX (p : Program) (c : Code) (cc : ByteArray) (s : State) (m : MethodId) (meth : Method) (args : Array Value) (own : String) (Ts : List Cond) (Dg : va_G) (cA : Nat → ClassId) (cnt : Nat → Int) (ad : Nat → Int → Nat) (oc : Nat → Nat) (A : Nat → Prop) (nL : Nat) (ret : Option FieldType) : Prop :=
  CX p c cc s m args own Ts Dg cA cnt ad A ∧ c.maxLocals = nL ∧ meth.sig.returnType = ret ∧ meth.locks = false ∧ ENV oc A s s.heap ∧ ∀ q, s.heap.size ≤ q → A q
section Starts
variable {l : Launch} {y : MethodName} {ws ws' : List Cond} {rm : Room} {Dg : va_G} {cA : Nat → ClassId} {cnt : Nat → Int} {ad : Nat → Int → Nat} {oc : Nat → Nat} {E E' : Nat → Int → va_E} {As : List Value} {cc : ByteArray} {maxL : Nat} {ret : Option FieldType}
theorem g_ent {Qc : Array Value → State → Outcome → State → Prop} {sz : Nat} (hy : plainName y.cls = true) (hw : ws = Cond.code y cc maxL ret :: ws') (hI : WI cnt ad) (hlen : (lg_sl As).length ≤ maxL)
    (body : ∀ (p : Program) (e : Env) (s : State) (m : MethodId) (below : List Frame) (meth : Method) (c : Code), KX p c cc s m meth As.toArray y.cls ws Dg cA cnt ad oc (WA cnt ad s.heap.size) maxL ret → WP Dg cnt ad E s.heap → va_S (WA cnt ad s.heap.size) s.heap s.heap [] → s.heap.size = sz → ∀ ls : Array Slot, lv_has ls maxL (lv_args 0 As) → W p l e (headSpec ws rm).room s m As.toArray below meth c s.heap [] 0 0 (MQ below Qc As.toArray s 0 0 (WA cnt ad s.heap.size)) (F0 m 0 ls [])) :
    Met l y ws rm (gPre Dg cA cnt ad oc E As sz) Qc 0 0 (WA cnt ad sz) := by
  refine Met.ofW (cc := cc) (maxL := maxL) (ret := ret) hy hw ?_
  intro p e s m args below meth c s₁ B hml hv
  obtain ⟨rfl, hsz, hW, hK, hE⟩ := hv
  have hts := atoms_spec (ws := ws) B.pre
  have hl := lv_entry As (n := maxL) hlen
  subst hsz
  rw [lg_entry_eq]
  exact body p e s m below meth c ⟨⟨B.exec, B.bytes, findClass_of_methodNamed B.named, hts, hK, hI, fun t i h0 h1 => Or.inl ⟨t, i, h0, h1, rfl⟩⟩, hml, B.returns, B.notSynchronized, hE, fun q h => Or.inr h⟩ hW va_S.rf rfl _ hl
theorem gx_ent {XC : String → State → State → Prop} {Qc : Array Value → State → Outcome → State → Prop} {sz : Nat} (hy : plainName y.cls = true) (hw : ws = Cond.code y cc maxL ret :: ws') (hI : WI cnt ad) (hlen : (lg_sl As).length ≤ maxL)
    (body : ∀ (p : Program) (e : Env) (s : State) (m : MethodId) (below : List Frame) (meth : Method) (c : Code), KX p c cc s m meth As.toArray y.cls ws Dg cA cnt ad oc (WA cnt ad s.heap.size) maxL ret → (∀ x ∈ c.exceptionTable.toList, False) → WP Dg cnt ad E s.heap → va_S (WA cnt ad s.heap.size) s.heap s.heap [] → s.heap.size = sz → ∀ ls : Array Slot, lv_has ls maxL (lv_args 0 As) → W p l e (headSpec ws rm).room s m As.toArray below meth c s.heap [] 0 0 (vx_MQ below Qc XC As.toArray s 1 6 (WA cnt ad s.heap.size)) (F0 m 0 ls [])) :
    vx_Met l y ws rm (gPre Dg cA cnt ad oc E As sz) Qc XC 1 6 (WA cnt ad sz) := by
  refine vx_ofW (cc := cc) (maxL := maxL) (ret := ret) hy hw ?_
  intro p e s m args below meth c s₁ B hml hno hv
  obtain ⟨rfl, hsz, hW, hK, hE⟩ := hv
  have hts := atoms_spec (ws := ws) B.pre
  have hl := lv_entry As (n := maxL) hlen
  subst hsz
  rw [lg_entry_eq]
  exact body p e s m below meth c ⟨⟨B.exec, B.bytes, findClass_of_methodNamed B.named, hts, hK, hI, fun t i h0 h1 => Or.inl ⟨t, i, h0, h1, rfl⟩⟩, hml, B.returns, B.notSynchronized, hE, fun q h => Or.inr h⟩ hno hW va_S.rf rfl _ hl
end Starts
section Ends
variable {p : Program} {l : Launch} {e : Env} {R : Room} {s : State} {m : MethodId} {args : Array Value} {below : List Frame} {meth : Method} {c : Code} {H : Heap} {locs : List Loc} {cc : ByteArray} {pc : Nat} {ls : Array Slot} {own : String} {Ts : List Cond} {Dg : va_G} {cA : Nat → ClassId} {cnt : Nat → Int} {ad : Nat → Int → Nat} {oc : Nat → Nat} {A : Nat → Prop} {E : Nat → Int → va_E} {nL : Nat}
theorem k_iret {v w : Int} (hX : KX p c cc s m meth args own Ts Dg cA cnt ad oc A nL (some .int)) (hv : v = w) (hW : WP Dg cnt ad E H) (hS : va_S A s.heap H locs) (hdg : decode cc pc = .ok (.ireturn, 1)) :
    W p l e R s m args below meth c H locs 0 0 (MQ below (va_Qi (fun (r : Int32) (_ : Unit) => r = zi w) (gB Dg cnt ad E) A) args s 0 0 A) (F0 m pc ls [.int (zi v)]) :=
  W.iret (v := zi v) hX.1.1 hX.1.2.1 hX.2.2.1 (fun t ht _ => ⟨⟨_, (), rfl, by rw [hv], by show WP Dg cnt ad E t.heap; rw [ht]; exact hW⟩, hS.F ht⟩) hS.2.2 hdg hX.2.2.2.1
theorem k_vret (hX : KX p c cc s m meth args own Ts Dg cA cnt ad oc A nL none) (hW : WP Dg cnt ad E H) (hS : va_S A s.heap H locs) (hdg : decode cc pc = .ok (.return_, 1)) :
    W p l e R s m args below meth c H locs 0 0 (MQ below (va_Qv (fun _ : Unit => True) (gB Dg cnt ad E) A) args s 0 0 A) (F0 m pc ls []) :=
  W.vret hX.1.1 hX.1.2.1 hX.2.2.1 (fun t ht _ => ⟨⟨(), rfl, trivial, by show WP Dg cnt ad E t.heap; rw [ht]; exact hW⟩, hS.F ht⟩) hS.2.2 hdg hX.2.2.2.1
theorem k_aret {rt : FieldType} {o : Nat} (hX : KX p c cc s m meth args own Ts Dg cA cnt ad oc A nL (some rt)) (hW : WP Dg cnt ad E H) (hS : va_S A s.heap H locs) (hdg : decode cc pc = .ok (.areturn, 1)) (hrt : ∃ C, rt = .object C) :
    W p l e R s m args below meth c H locs 0 0 (MQ below (va_Qr (fun _ : Unit => True) (fun (_ : Unit) (a : Nat) (t : State) => a = oc o ∧ WP Dg cnt ad E t.heap) A) args s 0 0 A) (F0 m pc ls [.ref (oc o)]) := by
  obtain ⟨C, rfl⟩ := hrt
  exact W.aret (v := .ref (oc o)) (rt := .object C) hX.1.1 hX.1.2.1 hX.2.2.1 (Or.inl ⟨C, rfl⟩) (Or.inr ⟨_, rfl⟩) (fun t ht _ => ⟨⟨(), oc o, rfl, trivial, rfl, by rw [ht]; exact hW⟩, hS.F ht⟩) hS.2.2 hdg hX.2.2.2.1
end Ends
end BASE2
section BASE3
variable {p : Program} {l : Launch} {e : Env} {R : Room} {s : State} {m : MethodId} {args : Array Value} {below : List Frame} {meth : Method} {c : Code} {H : Heap} {locs : List Loc} {cells slots : Nat} {Q : State → Prop} {cc bytes : ByteArray} {pc index maxL n : Nat} {ls : Array Slot} {rest st0 : List Value} {own C : String} {Ts ws : List Cond} {Dg : va_G} {cA : Nat → ClassId} {cnt : Nat → Int} {ad : Nat → Int → Nat} {oc : Nat → Nat} {A : Nat → Prop} {E E' : Nat → Int → va_E} {nL : Nat} {ret0 : Option FieldType} {y : MethodName} {rm : Room} {b : Nat} {As : List Value}
theorem wa_sub {H0 : Heap} (hA : ∀ (t : Nat) (i : Int), 0 ≤ i → i < cnt t → A (ad t i)) (hn : ∀ q, s.heap.size ≤ q → A q) (hS : va_S A s.heap H locs) : ∀ q, WA cnt ad H.size q → A q := by
  intro q h
  rcases h with ⟨t, i, h0, h1, rfl⟩ | h
  · exact hA t i h0 h1
  · exact hn q (Nat.le_trans hS.1 h)
/-- what a call of a method of this object asks at its start -/
theorem pre_of (hX : KX p c cc s m meth args own Ts Dg cA cnt ad oc A nL ret0) (hW : WP Dg cnt ad E H) (hS : va_S A s.heap H locs) (U : State) (hU : U.heap = H) (hWm : s.WarmedH U.vm) : gPre Dg cA cnt ad oc E As H.size As.toArray U :=
  ⟨rfl, by rw [hU], by rw [hU]; exact hW, va_K.moved hWm.alike hX.1.2.2.2.2.1, by rw [hU]; exact hX.2.2.2.2.1.call hS (wa_sub (H0 := H) hX.1.2.2.2.2.2.2 hX.2.2.2.2.2 hS) hWm⟩
theorem k_callV (hX : KX p c cc s m meth args own Ts Dg cA cnt ad oc A nL ret0) (hls : ls.size = nL) (hM : GV l y ws rm Dg cA cnt ad oc E (.ref b :: As) E') (cw : CallW R s args own C index y bytes maxL none ws rm 0 0 n) (hr : ∃ cell : Cell, H[b]? = some cell ∧ cell.vm.isStatics = false ∧ s.vm.findClass C = some cell.cls) (hW : WP Dg cnt ad E H) (hS : va_S A s.heap H locs) (hf : cells ≤ R.cells ∧ slots ≤ R.slots) (hst : st0 = As.reverse ++ .ref b :: rest) (hn : As.length = n) (hcat : (rest.map fun v => v.category).sum ≤ 8) (hdg : decode cc pc = .ok (.invokevirtual index, 3))
    (kk : ∀ (H1 : Heap) (locs1 : List Loc), WP Dg cnt ad E' H1 → va_S A s.heap H1 locs1 → H.size ≤ H1.size → (∀ q : Nat, q < H.size → ¬ WA cnt ad H.size q → H1[q]? = H[q]?) → W p l e R s m args below meth c H1 locs1 cells slots Q (F0 m (pc + 3) ls rest)) : W p l e R s m args below meth c H locs cells slots Q (F0 m pc ls st0) := by
  have hA1 := wa_sub (H0 := H) hX.1.2.2.2.2.2.2 hX.2.2.2.2.2 hS
  refine va_callv (va_runV (As := As) (rest := rest) ⟨hX.1.1, hX.1.2.1, hX.2.1, hX.1.2.2.1, hX.1.2.2.2.1⟩ (hM H.size) cw ⟨gPre_blind, hr, fun U hU hWm => pre_of hX hW hS U hU hWm⟩ rfl hn hls hst (lv_room hcat) hdg hf) hS (fun q _ h => hA1 q h) hA1 (fun u t H1 locs1 ht _ _ hB hz hk hS1 => ?_)
  have hB : WP Dg cnt ad E' t.heap := hB
  rw [ht] at hB
  exact kk H1 locs1 hB hS1 hz hk
theorem k_callI {rt : FieldType} {v : Int} (hX : KX p c cc s m meth args own Ts Dg cA cnt ad oc A nL ret0) (hls : ls.size = nL) (hM : GI l y ws rm Dg cA cnt ad oc E (.ref b :: As) v E') (cw : CallW R s args own C index y bytes maxL (some rt) ws rm 0 0 n) (hr : ∃ cell : Cell, H[b]? = some cell ∧ cell.vm.isStatics = false ∧ s.vm.findClass C = some cell.cls) (hW : WP Dg cnt ad E H) (hS : va_S A s.heap H locs) (hf : cells ≤ R.cells ∧ slots ≤ R.slots) (hst : st0 = As.reverse ++ .ref b :: rest) (hn : As.length = n) (hcat : (rest.map fun v => v.category).sum ≤ 8) (hdg : decode cc pc = .ok (.invokevirtual index, 3))
    (kk : ∀ (H1 : Heap) (locs1 : List Loc), WP Dg cnt ad E' H1 → va_S A s.heap H1 locs1 → H.size ≤ H1.size → (∀ q : Nat, q < H.size → ¬ WA cnt ad H.size q → H1[q]? = H[q]?) → W p l e R s m args below meth c H1 locs1 cells slots Q (F0 m (pc + 3) ls (.int (zi v) :: rest))) : W p l e R s m args below meth c H locs cells slots Q (F0 m pc ls st0) := by
  have hA1 := wa_sub (H0 := H) hX.1.2.2.2.2.2.2 hX.2.2.2.2.2 hS
  refine va_calli (va_runV (As := As) (rest := rest) ⟨hX.1.1, hX.1.2.1, hX.2.1, hX.1.2.2.1, hX.1.2.2.2.1⟩ (hM H.size) cw ⟨gPre_blind, hr, fun U hU hWm => pre_of hX hW hS U hU hWm⟩ rfl hn hls hst (lv_room hcat) hdg hf) hS (fun q _ h => hA1 q h) hA1 (fun r u t H1 locs1 ht _ hp hB hz hk hS1 => ?_)
  have hB : WP Dg cnt ad E' t.heap := hB
  rw [ht] at hB
  have hp : r = zi v := hp
  subst hp
  exact kk H1 locs1 hB hS1 hz hk
theorem k_callL {v : Int} (hX : KX p c cc s m meth args own Ts Dg cA cnt ad oc A nL ret0) (hls : ls.size = nL) (hM : GL l y ws rm Dg cA cnt ad oc E (.ref b :: As) v E') (cw : CallW R s args own C index y bytes maxL (some .long) ws rm 0 0 n) (hr : ∃ cell : Cell, H[b]? = some cell ∧ cell.vm.isStatics = false ∧ s.vm.findClass C = some cell.cls) (hW : WP Dg cnt ad E H) (hS : va_S A s.heap H locs) (hf : cells ≤ R.cells ∧ slots ≤ R.slots) (hst : st0 = As.reverse ++ .ref b :: rest) (hn : As.length = n) (hcat : (rest.map fun v => v.category).sum ≤ 8) (hdg : decode cc pc = .ok (.invokevirtual index, 3))
    (kk : ∀ (H1 : Heap) (locs1 : List Loc), WP Dg cnt ad E' H1 → va_S A s.heap H1 locs1 → H.size ≤ H1.size → (∀ q : Nat, q < H.size → ¬ WA cnt ad H.size q → H1[q]? = H[q]?) → W p l e R s m args below meth c H1 locs1 cells slots Q (F0 m (pc + 3) ls (.long (zl v) :: rest))) : W p l e R s m args below meth c H locs cells slots Q (F0 m pc ls st0) := by
  have hA1 := wa_sub (H0 := H) hX.1.2.2.2.2.2.2 hX.2.2.2.2.2 hS
  refine va_calll (va_runV (As := As) (rest := rest) ⟨hX.1.1, hX.1.2.1, hX.2.1, hX.1.2.2.1, hX.1.2.2.2.1⟩ (hM H.size) cw ⟨gPre_blind, hr, fun U hU hWm => pre_of hX hW hS U hU hWm⟩ rfl hn hls hst (lv_room hcat) hdg hf) hS (fun q _ h => hA1 q h) hA1 (fun r u t H1 locs1 ht _ hp hB hz hk hS1 => ?_)
  have hB : WP Dg cnt ad E' t.heap := hB
  rw [ht] at hB
  have hp : r = zl v := hp
  subst hp
  exact kk H1 locs1 hB hS1 hz hk
theorem k_callR {rt : FieldType} {v : Nat} (hX : KX p c cc s m meth args own Ts Dg cA cnt ad oc A nL ret0) (hls : ls.size = nL) (hM : GR l y ws rm Dg cA cnt ad oc E (.ref b :: As) v E') (cw : CallW R s args own C index y bytes maxL (some rt) ws rm 0 0 n) (hr : ∃ cell : Cell, H[b]? = some cell ∧ cell.vm.isStatics = false ∧ s.vm.findClass C = some cell.cls) (hW : WP Dg cnt ad E H) (hS : va_S A s.heap H locs) (hf : cells ≤ R.cells ∧ slots ≤ R.slots) (hst : st0 = As.reverse ++ .ref b :: rest) (hn : As.length = n) (hcat : (rest.map fun v => v.category).sum ≤ 8) (hdg : decode cc pc = .ok (.invokevirtual index, 3))
    (kk : ∀ (H1 : Heap) (locs1 : List Loc), WP Dg cnt ad E' H1 → va_S A s.heap H1 locs1 → H.size ≤ H1.size → (∀ q : Nat, q < H.size → ¬ WA cnt ad H.size q → H1[q]? = H[q]?) → W p l e R s m args below meth c H1 locs1 cells slots Q (F0 m (pc + 3) ls (.ref (oc v) :: rest))) : W p l e R s m args below meth c H locs cells slots Q (F0 m pc ls st0) := by
  have hA1 := wa_sub (H0 := H) hX.1.2.2.2.2.2.2 hX.2.2.2.2.2 hS
  refine va_callr (va_runV (As := As) (rest := rest) ⟨hX.1.1, hX.1.2.1, hX.2.1, hX.1.2.2.1, hX.1.2.2.2.1⟩ (hM H.size) cw ⟨gPre_blind, hr, fun U hU hWm => pre_of hX hW hS U hU hWm⟩ rfl hn hls hst (lv_room hcat) hdg hf) hS (fun q _ h => hA1 q h) hA1 (fun u ra t H1 locs1 ht _ _ hB hz hk hS1 => ?_)
  obtain ⟨rfl, hB⟩ := hB
  rw [ht] at hB
  exact kk H1 locs1 hB hS1 hz hk
theorem k_callSV (hX : KX p c cc s m meth args own Ts Dg cA cnt ad oc A nL ret0) (hls : ls.size = nL) (hM : GV l y ws rm Dg cA cnt ad oc E As E') (cw : CallB R s args own index y bytes maxL none ws rm 0 0 n ∧ (Cond.static y).before args s = true) (hW : WP Dg cnt ad E H) (hS : va_S A s.heap H locs) (hf : cells ≤ R.cells ∧ slots ≤ R.slots) (hst : st0 = As.reverse ++ rest) (hn : As.length = n) (hcat : (rest.map fun v => v.category).sum ≤ 8) (hdg : decode cc pc = .ok (.invokestatic index, 3))
    (kk : ∀ (H1 : Heap) (locs1 : List Loc), WP Dg cnt ad E' H1 → va_S A s.heap H1 locs1 → H.size ≤ H1.size → (∀ q : Nat, q < H.size → ¬ WA cnt ad H.size q → H1[q]? = H[q]?) → W p l e R s m args below meth c H1 locs1 cells slots Q (F0 m (pc + 3) ls rest)) : W p l e R s m args below meth c H locs cells slots Q (F0 m pc ls st0) := by
  have hA1 := wa_sub (H0 := H) hX.1.2.2.2.2.2.2 hX.2.2.2.2.2 hS
  refine va_callv (va_runS (As := As) (rest := rest) ⟨hX.1.1, hX.1.2.1, hX.2.1, hX.1.2.2.1, hX.1.2.2.2.1⟩ (hM H.size) cw ⟨gPre_blind, fun U hU hWm => pre_of hX hW hS U hU hWm⟩ rfl hn hls hst (lv_room hcat) hdg hf) hS (fun q _ h => hA1 q h) hA1 (fun u t H1 locs1 ht _ _ hB hz hk hS1 => ?_)
  have hB : WP Dg cnt ad E' t.heap := hB
  rw [ht] at hB
  exact kk H1 locs1 hB hS1 hz hk
theorem k_callSI {rt : FieldType} {v : Int} (hX : KX p c cc s m meth args own Ts Dg cA cnt ad oc A nL ret0) (hls : ls.size = nL) (hM : GI l y ws rm Dg cA cnt ad oc E As v E') (cw : CallB R s args own index y bytes maxL (some rt) ws rm 0 0 n ∧ (Cond.static y).before args s = true) (hW : WP Dg cnt ad E H) (hS : va_S A s.heap H locs) (hf : cells ≤ R.cells ∧ slots ≤ R.slots) (hst : st0 = As.reverse ++ rest) (hn : As.length = n) (hcat : (rest.map fun v => v.category).sum ≤ 8) (hdg : decode cc pc = .ok (.invokestatic index, 3))
    (kk : ∀ (H1 : Heap) (locs1 : List Loc), WP Dg cnt ad E' H1 → va_S A s.heap H1 locs1 → H.size ≤ H1.size → (∀ q : Nat, q < H.size → ¬ WA cnt ad H.size q → H1[q]? = H[q]?) → W p l e R s m args below meth c H1 locs1 cells slots Q (F0 m (pc + 3) ls (.int (zi v) :: rest))) : W p l e R s m args below meth c H locs cells slots Q (F0 m pc ls st0) := by
  have hA1 := wa_sub (H0 := H) hX.1.2.2.2.2.2.2 hX.2.2.2.2.2 hS
  refine va_calli (va_runS (As := As) (rest := rest) ⟨hX.1.1, hX.1.2.1, hX.2.1, hX.1.2.2.1, hX.1.2.2.2.1⟩ (hM H.size) cw ⟨gPre_blind, fun U hU hWm => pre_of hX hW hS U hU hWm⟩ rfl hn hls hst (lv_room hcat) hdg hf) hS (fun q _ h => hA1 q h) hA1 (fun r u t H1 locs1 ht _ hp hB hz hk hS1 => ?_)
  have hB : WP Dg cnt ad E' t.heap := hB
  rw [ht] at hB
  have hp : r = zi v := hp
  subst hp
  exact kk H1 locs1 hB hS1 hz hk
-- a callee that throws: it goes on to the caller
theorem x_out {Xn : String} {Qc Qa : Array Value → State → Outcome → State → Prop} (hX : KX p c cc s m meth args own Ts Dg cA cnt ad oc A nL ret0) (hno : ∀ x ∈ c.exceptionTable.toList, False) (hS : va_S A s.heap H locs)
    (hr : vx_Run p l e R s m args below meth c H locs 0 0 1 6 (F0 m pc ls st0) rest (fun _ _ _ => False) (vx_X (fun _ : Unit => True) (fun (F : String) (_ : Unit) (t : State) => F = Xn ∧ WP Dg cnt ad E t.heap) (WA cnt ad H.size)) (WA cnt ad H.size)) :
    W p l e R s m args below meth c H locs 0 0 (vx_MQ below Qc (vx_X (fun _ : Unit => True) (fun (F : String) (_ : Unit) (t : State) => F = Xn ∧ WP Dg cnt ad E t.heap) A) args s 1 6 A) (F0 m pc ls st0) := by
  have hA1 := wa_sub (H0 := H) hX.1.2.2.2.2.2.2 hX.2.2.2.2.2 hS
  intro T hT X
  rcases hr T hT X with ⟨v, st₀, t, T', L, h0, X', hL, e1, e2, hF, st⟩ | ⟨q, st₀, t, T', L, F, ce, h0, X', hL, e1, e2, ⟨u, hp, ⟨hb1, hb2⟩, hF⟩, hce, hcv, hcl, st⟩
  · exact hF.elim
  · obtain ⟨k1, k2, k3⟩ := vx_keep h0 e1 hS (fun q _ h => hA1 q h) hA1 hL hF
    subst hb1
    have hb2 : WP Dg cnt ad E T'.heap := by rw [e1]; exact hb2
    obtain ⟨t2, a1, b1⟩ := vx_out (p := p) (l := l) (e := e) (R := R) (Qc := Qc) (ls := ls) (rest := rest) (pc := pc) (cells := 0 + 1) (slots := 0 + 6) (fun x hx => (hno x hx).elim) hX.2.2.2.1 (by rw [e1]; exact hce) hcv hcl (XC := vx_X (fun _ : Unit => True) (fun (G : String) (_ : Unit) (t : State) => G = F ∧ WP Dg cnt ad E t.heap) A) (fun t ht _ => ⟨(), trivial, ⟨rfl, by rw [ht]; exact hb2⟩, k3.F ht⟩) k3.2.2 (Nat.le_refl _) (Nat.le_refl _) T' rfl X'
    exact ⟨t2, st.trans a1, b1⟩
theorem k_callX {Xn : String} {Qc : Array Value → State → Outcome → State → Prop} {ret : Option FieldType} (hX : KX p c cc s m meth args own Ts Dg cA cnt ad oc A nL ret0) (hno : ∀ x ∈ c.exceptionTable.toList, False) (hls : ls.size = nL) (hM : GX l y ws rm Dg cA cnt ad oc E (.ref b :: As) Xn) (cw : CallW R s args own C index y bytes maxL ret ws rm 1 6 n) (hr : ∃ cell : Cell, H[b]? = some cell ∧ cell.vm.isStatics = false ∧ s.vm.findClass C = some cell.cls) (hW : WP Dg cnt ad E H) (hS : va_S A s.heap H locs) (hf : 1 ≤ R.cells ∧ 6 ≤ R.slots) (hst : st0 = As.reverse ++ .ref b :: rest) (hn : As.length = n) (hcat : (rest.map fun v => v.category).sum ≤ 8) (hdg : decode cc pc = .ok (.invokevirtual index, 3)) :
    W p l e R s m args below meth c H locs 0 0 (vx_MQ below Qc (vx_X (fun _ : Unit => True) (fun (F : String) (_ : Unit) (t : State) => F = Xn ∧ WP Dg cnt ad E t.heap) A) args s 1 6 A) (F0 m pc ls st0) :=
  x_out (Qa := Qc) hX hno hS (vx_runV (As := As) (rest := rest) ⟨hX.1.1, hX.1.2.1, hX.2.1, hX.1.2.2.1, hX.1.2.2.2.1⟩ (hM H.size) cw ⟨gPre_blind, hr, fun U hU hWm => pre_of hX hW hS U hU hWm⟩ rfl hn hls hst (lv_room hcat) hdg (by omega))
theorem k_callSX {Xn : String} {Qc : Array Value → State → Outcome → State → Prop} {ret : Option FieldType} (hX : KX p c cc s m meth args own Ts Dg cA cnt ad oc A nL ret0) (hno : ∀ x ∈ c.exceptionTable.toList, False) (hls : ls.size = nL) (hM : GX l y ws rm Dg cA cnt ad oc E As Xn) (cw : CallB R s args own index y bytes maxL ret ws rm 1 6 n ∧ (Cond.static y).before args s = true) (hW : WP Dg cnt ad E H) (hS : va_S A s.heap H locs) (hf : 1 ≤ R.cells ∧ 6 ≤ R.slots) (hst : st0 = As.reverse ++ rest) (hn : As.length = n) (hcat : (rest.map fun v => v.category).sum ≤ 8) (hdg : decode cc pc = .ok (.invokestatic index, 3)) :
    W p l e R s m args below meth c H locs 0 0 (vx_MQ below Qc (vx_X (fun _ : Unit => True) (fun (F : String) (_ : Unit) (t : State) => F = Xn ∧ WP Dg cnt ad E t.heap) A) args s 1 6 A) (F0 m pc ls st0) :=
  x_out (Qa := Qc) hX hno hS (vx_runS (As := As) (rest := rest) ⟨hX.1.1, hX.1.2.1, hX.2.1, hX.1.2.2.1, hX.1.2.2.2.1⟩ (hM H.size) cw ⟨gPre_blind, fun U hU hWm => pre_of hX hW hS U hU hWm⟩ rfl hn hls hst (lv_room hcat) hdg (by omega))
/-- 'throw new X(text)' -/
theorem k_throw {Xn text : String} {ik is ic : Nat} {Qc : Array Value → State → Outcome → State → Prop} (hX : KX p c cc s m meth args own Ts Dg cA cnt ad oc A nL ret0) (how : own = "KioskReel") (hno : ∀ x ∈ c.exceptionTable.toList, False) (hls : ls.size = nL) (hl : l.stackTraces = false) (hfit : Bundle.fit Xn = true)
    (hk : Cond.classLink own ik Xn ∈ Ts) (hini : Cond.initialized Xn ∈ Ts) (hstr : (is, text) ∈ strL) (hat : ∀ w ∈ (vx_atS own ic Xn ["java/lang/RuntimeException", "java/lang/Exception"]).filter goodWord, w ∈ Ts) (hbad : ∀ w ∈ (vx_atS own ic Xn ["java/lang/RuntimeException", "java/lang/Exception"]).filter (fun w => !goodWord w), w ∈ xbL)
    (hgood : ∀ w ∈ Cond.classLink own ik Xn :: Cond.initialized Xn :: vx_atS own ic Xn ["java/lang/RuntimeException", "java/lang/Exception"], vx_ot w = true) (hW : WP Dg cnt ad E H) (hS : va_S A s.heap H locs)
    (d0 : decode cc pc = .ok (.new ik, 3)) (d3 : decode cc (pc + 3) = .ok (.dup, 1)) (d4 : decode cc (pc + 4) = .ok (.ldc is, 2)) (d6 : decode cc (pc + 6) = .ok (.invokespecial ic, 3)) (d9 : decode cc (pc + 9) = .ok (.athrow, 1))
    (hR : 5 < R.frames ∧ (rest.map fun v => v.category).sum + 82 ≤ R.locals ∧ 1 ≤ R.cells ∧ 6 ≤ R.slots) :
    W p l e R s m args below meth c H locs 0 0 (vx_MQ below Qc (vx_X (fun _ : Unit => True) (fun (F : String) (_ : Unit) (t : State) => F = Xn ∧ WP Dg cnt ad E t.heap) A) args s 1 6 A) (F0 m pc ls rest) := by
  subst how
  obtain ⟨⟨hx, hb, hown, hts, hK, hI, hA⟩, hml, -, hlk, hE, hAn⟩ := hX
  obtain ⟨-, -, -, -, hU, hN, hT, hB⟩ := hE
  obtain ⟨sa, hsa⟩ := hT _ hstr
  exact vx_throwS hx hb hl hown hfit (by decide) (hts _ hk) (hts _ hini) hsa (vx_hat (fun w hw => hts w (hat w hw)) hbad (xb_move (Vm.Alike.refl _) hB)) hgood hU hN hS (hls.trans hml.symm) d0 d3 d4 d6 d9 (fun x hx => (hno x hx).elim) (by have := hR.1; simp only [List.length_cons, List.length_nil]; omega) (by have := hR.2.1; simp only [List.length_cons, List.length_nil]; omega) (by omega) (by omega) hlk
    (fun t _ hz hk => ⟨(), trivial, ⟨rfl, hW.kept (fun t' i h0 h1 => hk _ (hW.lt h0 h1))⟩, ⟨Nat.le_trans hS.1 hz, fun q h1 h2 => (hk q (Nat.lt_of_lt_of_le h1 hS.1)).trans (hS.2.1 q h1 h2)⟩⟩) hS.2.2 (Nat.le_refl _) (Nat.le_refl _)
theorem k_throwW {Xn text : String} {ik is ic : Nat} {Qc : Array Value → State → Outcome → State → Prop} (hX : KX p c cc s m meth args own Ts Dg cA cnt ad oc A nL ret0) (how : own = "KioskReel") (hno : ∀ x ∈ c.exceptionTable.toList, False) (hls : ls.size = nL) (hl : l.stackTraces = false) (hfit : Bundle.fit Xn = true)
    (hk : Cond.classLink own ik Xn ∈ Ts) (hini : Cond.initialized Xn ∈ Ts) (hstr : (is, text) ∈ strL) (hat : ∀ w ∈ (vx_atS own ic Xn ["java/lang/RuntimeException", "java/lang/Exception"]).filter goodWord, w ∈ Ts) (hbad : ∀ w ∈ (vx_atS own ic Xn ["java/lang/RuntimeException", "java/lang/Exception"]).filter (fun w => !goodWord w), w ∈ xbL)
    (hgood : ∀ w ∈ Cond.classLink own ik Xn :: Cond.initialized Xn :: vx_atS own ic Xn ["java/lang/RuntimeException", "java/lang/Exception"], vx_ot w = true) (hW : WP Dg cnt ad E H) (hS : va_S A s.heap H locs)
    (d0 : decode cc pc = .ok (.new ik, 3)) (d3 : decode cc (pc + 3) = .ok (.dup, 1)) (d4 : decode cc (pc + 4) = .ok (.ldc_w is, 3)) (d6 : decode cc (pc + 7) = .ok (.invokespecial ic, 3)) (d9 : decode cc (pc + 10) = .ok (.athrow, 1))
    (hR : 5 < R.frames ∧ (rest.map fun v => v.category).sum + 82 ≤ R.locals ∧ 1 ≤ R.cells ∧ 6 ≤ R.slots) :
    W p l e R s m args below meth c H locs 0 0 (vx_MQ below Qc (vx_X (fun _ : Unit => True) (fun (F : String) (_ : Unit) (t : State) => F = Xn ∧ WP Dg cnt ad E t.heap) A) args s 1 6 A) (F0 m pc ls rest) := by
  subst how
  obtain ⟨⟨hx, hb, hown, hts, hK, hI, hA⟩, hml, -, hlk, hE, hAn⟩ := hX
  obtain ⟨-, -, -, -, hU, hN, hT, hB⟩ := hE
  obtain ⟨sa, hsa⟩ := hT _ hstr
  exact vx_throwSW hx hb hl hown hfit (by decide) (hts _ hk) (hts _ hini) hsa (vx_hat (fun w hw => hts w (hat w hw)) hbad (xb_move (Vm.Alike.refl _) hB)) hgood hU hN hS (hls.trans hml.symm) d0 d3 d4 d6 d9 (fun x hx => (hno x hx).elim) (by have := hR.1; simp only [List.length_cons, List.length_nil]; omega) (by have := hR.2.1; simp only [List.length_cons, List.length_nil]; omega) (by omega) (by omega) hlk
    (fun t _ hz hk => ⟨(), trivial, ⟨rfl, hW.kept (fun t' i h0 h1 => hk _ (hW.lt h0 h1))⟩, ⟨Nat.le_trans hS.1 hz, fun q h1 h2 => (hk q (Nat.lt_of_lt_of_le h1 hS.1)).trans (hS.2.1 q h1 h2)⟩⟩) hS.2.2 (Nat.le_refl _) (Nat.le_refl _)
theorem nx_athrow {q : Addr} (hexec : p.tables.exec = Jvm.exec) (hb : c.code = cc) (hdg : decode cc pc = .ok (.athrow, 1)) (k : vx_W p l e R s m args below meth c H locs cells slots Q (F0 m pc ls rest) q) : W p l e R s m args below meth c H locs cells slots Q (F0 m pc ls (.ref q :: rest)) := by
  intro T hT X
  obtain ⟨t, st, hq⟩ := k T hT X
  refine ⟨t, ?_, hq⟩
  have hdg' : decode c.code pc = .ok (.athrow, 1) := by rw [hb]; exact hdg
  jvm_step X.here [X.here.top, hexec, hdg', athrow.wp_sem]
  exact st
theorem x_end {Xn : String} {H1 : Heap} {q : Nat} {ce : Cell} {Qc : Array Value → State → Outcome → State → Prop} (hX : KX p c cc s m meth args own Ts Dg cA cnt ad oc A nL ret0) (hno : ∀ x ∈ c.exceptionTable.toList, False) (hW : WP Dg cnt ad E H) (hS : va_S A s.heap H locs) (hq : H1[q]? = some ce) (hv : ce.vm = .none) (hcl : s.vm.findClass Xn = some ce.cls) (hz : H.size ≤ H1.size) (hk : ∀ x : Nat, x < H.size → H1[x]? = H[x]?) (hdg : decode cc pc = .ok (.athrow, 1)) :
    W p l e R s m args below meth c H1 locs (0 + 1) (0 + 6) (vx_MQ below Qc (vx_X (fun _ : Unit => True) (fun (F : String) (_ : Unit) (t : State) => F = Xn ∧ WP Dg cnt ad E t.heap) A) args s 1 6 A) (F0 m pc ls (.ref q :: rest)) :=
  nx_athrow hX.1.1 hX.1.2.1 hdg (vx_out (fun x hx => (hno x hx).elim) hX.2.2.2.1 hq hv hcl (fun t ht _ => ⟨(), trivial, ⟨rfl, by rw [ht]; exact hW.kept (fun t' i h0 h1 => hk _ (hW.lt h0 h1))⟩, by rw [ht]; exact Nat.le_trans hS.1 hz, fun x h1 h2 => by rw [ht]; exact (hk x (Nat.lt_of_lt_of_le h1 hS.1)).trans (hS.2.1 x h1 h2)⟩) hS.2.2 (Nat.le_refl _) (Nat.le_refl _))
theorem k_throwN {Xn text : String} {ik is ic : Nat} {Qc : Array Value → State → Outcome → State → Prop} (hX : KX p c cc s m meth args own Ts Dg cA cnt ad oc A nL ret0) (how : own = "KioskReel") (hno : ∀ x ∈ c.exceptionTable.toList, False) (hls : ls.size = nL) (hl : l.stackTraces = false) (hfit : Bundle.fit Xn = true)
    (hk : Cond.classLink own ik Xn ∈ Ts) (hini : Cond.initialized Xn ∈ Ts) (hstr : (is, text) ∈ strL) (hat : ∀ w ∈ (nx_atS own ic Xn ["java/lang/RuntimeException", "java/lang/Exception"]).filter goodWord, w ∈ Ts) (hbad : ∀ w ∈ (nx_atS own ic Xn ["java/lang/RuntimeException", "java/lang/Exception"]).filter (fun w => !goodWord w), w ∈ xbL)
    (hgood : ∀ w ∈ Cond.classLink own ik Xn :: Cond.initialized Xn :: nx_atS own ic Xn ["java/lang/RuntimeException", "java/lang/Exception"], vx_ot w = true) (hW : WP Dg cnt ad E H) (hS : va_S A s.heap H locs)
    (d0 : decode cc pc = .ok (.new ik, 3)) (d3 : decode cc (pc + 3) = .ok (.dup, 1)) (d4 : decode cc (pc + 4) = .ok (.ldc is, 2)) (d6 : decode cc (pc + 6) = .ok (.invokespecial ic, 3)) (d9 : decode cc (pc + 9) = .ok (.athrow, 1))
    (hR : 5 < R.frames ∧ (rest.map fun v => v.category).sum + 82 ≤ R.locals ∧ 1 ≤ R.cells ∧ 6 ≤ R.slots) :
    W p l e R s m args below meth c H locs 0 0 (vx_MQ below Qc (vx_X (fun _ : Unit => True) (fun (F : String) (_ : Unit) (t : State) => F = Xn ∧ WP Dg cnt ad E t.heap) A) args s 1 6 A) (F0 m pc ls rest) := by
  subst how
  obtain ⟨sa, hsa⟩ := hX.2.2.2.2.1.2.2.2.2.2.2.1 _ hstr
  exact nx_make hX.1.1 hX.1.2.1 hl hX.1.2.2.1 hfit (by decide) (hX.1.2.2.2.1 _ hk) (hX.1.2.2.2.1 _ hini) hsa (vx_hat (fun w hw => hX.1.2.2.2.1 w (hat w hw)) hbad (xb_move (Vm.Alike.refl _) hX.2.2.2.2.1.2.2.2.2.2.2.2)) hgood hX.2.2.2.2.1.2.2.2.2.1 hX.2.2.2.2.1.2.2.2.2.2.1 hS (hls.trans hX.2.1.symm) d0 d3 d4 d6 (by have := hR.1; simp only [List.length_cons, List.length_nil]; omega) (by have := hR.2.1; simp only [List.length_cons, List.length_nil]; omega) (by omega) (by omega)
    (fun q H1 ce hq hv hcl hz hk => x_end hX hno hW hS hq hv hcl hz hk d9)
theorem k_throwNW {Xn text : String} {ik is ic : Nat} {Qc : Array Value → State → Outcome → State → Prop} (hX : KX p c cc s m meth args own Ts Dg cA cnt ad oc A nL ret0) (how : own = "KioskReel") (hno : ∀ x ∈ c.exceptionTable.toList, False) (hls : ls.size = nL) (hl : l.stackTraces = false) (hfit : Bundle.fit Xn = true)
    (hk : Cond.classLink own ik Xn ∈ Ts) (hini : Cond.initialized Xn ∈ Ts) (hstr : (is, text) ∈ strL) (hat : ∀ w ∈ (nx_atS own ic Xn ["java/lang/RuntimeException", "java/lang/Exception"]).filter goodWord, w ∈ Ts) (hbad : ∀ w ∈ (nx_atS own ic Xn ["java/lang/RuntimeException", "java/lang/Exception"]).filter (fun w => !goodWord w), w ∈ xbL)
    (hgood : ∀ w ∈ Cond.classLink own ik Xn :: Cond.initialized Xn :: nx_atS own ic Xn ["java/lang/RuntimeException", "java/lang/Exception"], vx_ot w = true) (hW : WP Dg cnt ad E H) (hS : va_S A s.heap H locs)
    (d0 : decode cc pc = .ok (.new ik, 3)) (d3 : decode cc (pc + 3) = .ok (.dup, 1)) (d4 : decode cc (pc + 4) = .ok (.ldc_w is, 3)) (d6 : decode cc (pc + 7) = .ok (.invokespecial ic, 3)) (d9 : decode cc (pc + 10) = .ok (.athrow, 1))
    (hR : 5 < R.frames ∧ (rest.map fun v => v.category).sum + 82 ≤ R.locals ∧ 1 ≤ R.cells ∧ 6 ≤ R.slots) :
    W p l e R s m args below meth c H locs 0 0 (vx_MQ below Qc (vx_X (fun _ : Unit => True) (fun (F : String) (_ : Unit) (t : State) => F = Xn ∧ WP Dg cnt ad E t.heap) A) args s 1 6 A) (F0 m pc ls rest) := by
  subst how
  obtain ⟨sa, hsa⟩ := hX.2.2.2.2.1.2.2.2.2.2.2.1 _ hstr
  exact nx_makeW hX.1.1 hX.1.2.1 hl hX.1.2.2.1 hfit (by decide) (hX.1.2.2.2.1 _ hk) (hX.1.2.2.2.1 _ hini) hsa (vx_hat (fun w hw => hX.1.2.2.2.1 w (hat w hw)) hbad (xb_move (Vm.Alike.refl _) hX.2.2.2.2.1.2.2.2.2.2.2.2)) hgood hX.2.2.2.2.1.2.2.2.2.1 hX.2.2.2.2.1.2.2.2.2.2.1 hS (hls.trans hX.2.1.symm) d0 d3 d4 d6 (by have := hR.1; simp only [List.length_cons, List.length_nil]; omega) (by have := hR.2.1; simp only [List.length_cons, List.length_nil]; omega) (by omega) (by omega)
    (fun q H1 ce hq hv hcl hz hk => x_end hX hno hW hS hq hv hcl hz hk d9)
/-- an outcome, read -/
theorem k_out {n : String} (k : Nat) (hX : KX p c cc s m meth args own Ts Dg cA cnt ad oc A nL ret0) (hS : va_S A s.heap H locs) (hn : (k = 0 ∧ n = "GOES_ON") ∨ (k = 1 ∧ n = "SHOWN") ∨ (k = 2 ∧ n = "ENDS_TURN")) (hl : (Cond.fieldLink own index "KioskReel$Outcome" n "LKioskReel$Outcome;").before args s = true) (hdg : decode cc pc = .ok (.getstatic index, 3))
    (kk : W p l e R s m args below meth c H locs cells slots Q (F0 m (pc + 3) ls (.ref (oc k) :: rest))) : W p l e R s m args below meth c H locs cells slots Q (F0 m pc ls rest) := by
  rcases hn with ⟨rfl, rfl⟩ | ⟨rfl, rfl⟩ | ⟨rfl, rfl⟩
  · exact va_gets hX.1.1 hX.1.2.1 hX.2.2.2.2.1.1 hS hX.1.2.2.1 hl (fun _ h => h) hdg kk
  · exact va_gets hX.1.1 hX.1.2.1 hX.2.2.2.2.1.2.1 hS hX.1.2.2.1 hl (fun _ h => h) hdg kk
  · exact va_gets hX.1.1 hX.1.2.1 hX.2.2.2.2.1.2.2.1 hS hX.1.2.2.1 hl (fun _ h => h) hdg kk
theorem k_zret {v w : Int} (hX : KX p c cc s m meth args own Ts Dg cA cnt ad oc A nL (some .boolean)) (hz : v = 0 ∨ v = 1) (hv : v = w) (hW : WP Dg cnt ad E H) (hS : va_S A s.heap H locs) (hdg : decode cc pc = .ok (.ireturn, 1)) :
    W p l e R s m args below meth c H locs 0 0 (MQ below (va_Qi (fun (r : Int32) (_ : Unit) => r = zi w) (gB Dg cnt ad E) A) args s 0 0 A) (F0 m pc ls [.int (zi v)]) :=
  W.zret (v := zi v) hX.1.1 hX.1.2.1 hX.2.2.1 (by rcases hz with rfl | rfl <;> decide) (fun t ht _ => ⟨⟨_, (), rfl, by rw [hv], by show WP Dg cnt ad E t.heap; rw [ht]; exact hW⟩, hS.F ht⟩) hS.2.2 hdg hX.2.2.2.1
theorem k_cret {v w : Int} (hX : KX p c cc s m meth args own Ts Dg cA cnt ad oc A nL (some .char)) (hz : 0 ≤ v ∧ v < 65536) (hv : v = w) (hW : WP Dg cnt ad E H) (hS : va_S A s.heap H locs) (hdg : decode cc pc = .ok (.ireturn, 1)) :
    W p l e R s m args below meth c H locs 0 0 (MQ below (va_Qi (fun (r : Int32) (_ : Unit) => r = zi w) (gB Dg cnt ad E) A) args s 0 0 A) (F0 m pc ls [.int (zi v)]) :=
  W.zret (v := zi v) hX.1.1 hX.1.2.1 hX.2.2.1 (by rw [zi_nI hz.1]; exact nar_c _ (by omega)) (fun t ht _ => ⟨⟨_, (), rfl, by rw [hv], by show WP Dg cnt ad E t.heap; rw [ht]; exact hW⟩, hS.F ht⟩) hS.2.2 hdg hX.2.2.2.1
theorem k_lret {v w : Int} (hX : KX p c cc s m meth args own Ts Dg cA cnt ad oc A nL (some .long)) (hv : v = w) (hW : WP Dg cnt ad E H) (hS : va_S A s.heap H locs) (hdg : decode cc pc = .ok (.lreturn, 1)) :
    W p l e R s m args below meth c H locs 0 0 (MQ below (va_Ql (fun (r : Int64) (_ : Unit) => r = zl w) (gB Dg cnt ad E) A) args s 0 0 A) (F0 m pc ls [.long (zl v)]) :=
  W.lret (v := zl v) hX.1.1 hX.1.2.1 hX.2.2.1 (fun t ht _ => ⟨⟨_, (), rfl, by rw [hv], by show WP Dg cnt ad E t.heap; rw [ht]; exact hW⟩, hS.F ht⟩) hS.2.2 hdg hX.2.2.2.1
theorem zl_i {x : Int} (h : -2147483648 ≤ x ∧ x < 2147483648) : (zi x).toInt64 = zl x := by
  unfold zi zl
  exact Int32.toInt64_ofInt (by rw [show Int32.minValue.toInt = -2147483648 from by decide]; exact h.1) (by rw [show Int32.maxValue.toInt = 2147483647 from by decide]; omega)
theorem k_i2l (hC : CX p c cc s m args own Ts Dg cA cnt ad A) {a : Int} (hdg : decode cc pc = .ok (.i2l, 1)) (hs : -2147483648 ≤ a ∧ a < 2147483648) (kk : W p l e R s m args below meth c H locs cells slots Q (F0 m (pc + 1) ls (.long (zl a) :: rest))) : W p l e R s m args below meth c H locs cells slots Q (F0 m pc ls (.int (zi a) :: rest)) :=
  lv_i2l hC.1 hC.2.1 hdg (zl_i hs) kk
theorem k_lconst (hC : CX p c cc s m args own Ts Dg cA cnt ad A) {n : Fin 2} {v : Int} (hdg : decode cc pc = .ok (.lconst n, 1)) (hv : Int64.ofNat (n : Nat) = zl v) (kk : W p l e R s m args below meth c H locs cells slots Q (F0 m (pc + 1) ls (.long (zl v) :: rest))) : W p l e R s m args below meth c H locs cells slots Q (F0 m pc ls rest) :=
  lv_lconst hC.1 hC.2.1 hdg hv kk
theorem k_acmp_ne_t {off : Int} {a b : Nat} {tgt : Nat} (hC : CX p c cc s m args own Ts Dg cA cnt ad A) (hdg : decode cc pc = .ok (.if_acmp .ne off, 3)) (ht : (pc : Int) + off = (tgt : Int)) (hab : a ≠ b) (kk : W p l e R s m args below meth c H locs cells slots Q (F0 m tgt ls rest)) : W p l e R s m args below meth c H locs cells slots Q (F0 m pc ls (.ref b :: .ref a :: rest)) :=
  lv_acmp_ne (rx := some a) (ry := some b) hC.1 hC.2.1 hdg ht (fun _ => kk) (fun h => absurd (Option.some.inj h) hab)
theorem k_acmp_ne_f {off : Int} {a b : Nat} {tgt : Nat} (hC : CX p c cc s m args own Ts Dg cA cnt ad A) (hdg : decode cc pc = .ok (.if_acmp .ne off, 3)) (ht : (pc : Int) + off = (tgt : Int)) (hab : a = b) (kk : W p l e R s m args below meth c H locs cells slots Q (F0 m (pc + 3) ls rest)) : W p l e R s m args below meth c H locs cells slots Q (F0 m pc ls (.ref b :: .ref a :: rest)) :=
  lv_acmp_ne (rx := some a) (ry := some b) hC.1 hC.2.1 hdg ht (fun h => absurd (congrArg some hab) h) (fun _ => kk)
-- receivers
theorem k_recv {C : String} {T : u_T} {N ci : Nat} {fs : List Value} (hX : CX p c cc s m args own Ts Dg cA cnt ad A) (hW : WP Dg cnt ad E H) {t : Nat} {i : Int} (h0 : 0 ≤ i) (h1 : i < cnt t) (he : E t i = .inr (ci, fs)) (hc : vwCl[ci]? = some (C, T, N)) : ∃ cell : Cell, H[ad t i]? = some cell ∧ cell.vm.isStatics = false ∧ s.vm.findClass C = some cell.cls :=
  va_recv hX.2.2.2.2.1 (hW.one h0 h1 he) (q := (C, T, N)) (ci := ci) (q0 := 0) hc rfl
variable {σ : St}
theorem rc_KR (hX : CX p c cc s m args own Ts Dg cA ccnt ad A) (hW : WP Dg ccnt ad (cE cA ad σ) H) : ∃ cell : Cell, H[ad 0 0]? = some cell ∧ cell.vm.isStatics = false ∧ s.vm.findClass RX7 = some cell.cls := k_recv hX hW (by decide) (by decide) rfl rfl
theorem rc_Reel (hX : CX p c cc s m args own Ts Dg cA ccnt ad A) (hW : WP Dg ccnt ad (cE cA ad σ) H) {i : Int} (h : 0 ≤ i ∧ i < 32) : ∃ cell : Cell, H[ad 6 i]? = some cell ∧ cell.vm.isStatics = false ∧ s.vm.findClass RX5 = some cell.cls := k_recv hX hW h.1 h.2 rfl rfl
theorem rc_Player (hX : CX p c cc s m args own Ts Dg cA ccnt ad A) (hW : WP Dg ccnt ad (cE cA ad σ) H) {i : Int} (h : 0 ≤ i ∧ i < 6) : ∃ cell : Cell, H[ad 10 i]? = some cell ∧ cell.vm.isStatics = false ∧ s.vm.findClass RX3 = some cell.cls := k_recv hX hW h.1 h.2 rfl rfl
theorem rc_Visitor (hX : CX p c cc s m args own Ts Dg cA ccnt ad A) (hW : WP Dg ccnt ad (cE cA ad σ) H) {i : Int} (h : 0 ≤ i ∧ i < 10) : ∃ cell : Cell, H[ad 14 i]? = some cell ∧ cell.vm.isStatics = false ∧ s.vm.findClass RX6 = some cell.cls := k_recv hX hW h.1 h.2 rfl rfl
theorem rc_Row (hX : CX p c cc s m args own Ts Dg cA ccnt ad A) (hW : WP Dg ccnt ad (cE cA ad σ) H) {i : Int} (h : 0 ≤ i ∧ i < 12) : ∃ cell : Cell, H[ad 18 i]? = some cell ∧ cell.vm.isStatics = false ∧ s.vm.findClass RX4 = some cell.cls := k_recv hX hW h.1 h.2 rfl rfl
-- what the first object's cells don't speak of
theorem gh {u : Nat} {i j v : Int} (hu : ∀ a b : Int, (cow u a b).1 = 99) (h : WP Dg ccnt ad (cE cA ad σ) H) : WP Dg ccnt ad (cE cA ad (ups σ u i j v)) H :=
  cE_same h (fun t a b ht => (ups_t σ (fun z => ht (by rw [z]; exact hu a b)) i j v a b).symm)
theorem gh7 {i j v : Int} (hj : j ≠ 0) (h : WP Dg ccnt ad (cE cA ad σ) H) : WP Dg ccnt ad (cE cA ad (ups σ 7 i j v)) H :=
  cE_same h (fun t a b ht => by
    unfold ups
    rw [if_neg]
    rintro ⟨rfl, rfl, rfl⟩
    exact ht (by simp [cow, hj]))
end BASE3
