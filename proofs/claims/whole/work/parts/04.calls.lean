section BASE2
/-- the strings that the first object's throws load -/
abbrev strL : List (Nat × String) := [(50, "there are 8 lists"), (64, "no such place"), (80, "the number is out of its range"), (83, "the list has 20 lines"), (102, "there are 6 kiosks"), (111, "the kiosk has a player"), (167, "no such player"), (190, "the number of ticks is out of range"), (201, "no slide was shown"), (206, "the device is free"), (211, "there are 10 visitors"), (245, "there are no visitors"), (258, "no such list"), (260, "no such kiosk"), (262, "the kiosk has no player"), (264, "no such visitor"), (266, "no such device"), (268, "no such slide"), (270, "no such kind")]
/-- what the calls need of the machine beside the worlds: the three outcomes, two statics of the throws, the texts -/
def ENV (oc : Nat → Nat) (A : Nat → Prop) (U : State) (H : Heap) : Prop :=
  va_Z "KioskReel$Outcome" "GOES_ON" "LKioskReel$Outcome;" (.ref (oc 0)) A U H ∧ va_Z "KioskReel$Outcome" "SHOWN" "LKioskReel$Outcome;" (.ref (oc 1)) A U H ∧ va_Z "KioskReel$Outcome" "ENDS_TURN" "LKioskReel$Outcome;" (.ref (oc 2)) A U H ∧ (oc 0 ≠ oc 1 ∧ oc 0 ≠ oc 2 ∧ oc 1 ≠ oc 2) ∧
  vx_Zq Bundle.tN "UNASSIGNED_STACK" Bundle.steD A U H ∧ vx_Zq Bundle.tN "SUPPRESSED_SENTINEL" Bundle.listD A U H ∧ ∀ q ∈ strL, ∃ a : Nat, vk_R "KioskReel" q.1 q.2 a U
theorem ENV.same {oc : Nat → Nat} {A : Nat → Prop} {u U : State} {H : Heap} (hv : U.vm = u.vm) (h : ENV oc A u H) : ENV oc A U H := by
  obtain ⟨h1, h2, h3, h4, h5, h6, h7⟩ := h
  have hal : u.vm.Alike U.vm := by rw [hv]; exact Vm.Alike.refl _
  exact ⟨h1.moved hal, h2.moved hal, h3.moved hal, h4, h5.moved hal, h6.moved hal, fun q hq => by obtain ⟨a, ha⟩ := h7 q hq; exact ⟨a, ha.same hv⟩⟩
theorem ENV.call {oc : Nat → Nat} {A A1 : Nat → Prop} {s U : State} {H : Heap} {locs : List Loc} (h : ENV oc A s s.heap) (hS : va_S A s.heap H locs) (hA : ∀ q, A1 q → A q) (hW : s.WarmedH U.vm) : ENV oc A1 U H := by
  obtain ⟨h1, h2, h3, h4, h5, h6, h7⟩ := h
  have hk : ∀ a : Nat, a < s.heap.size → ¬ A a → H[a]? = s.heap[a]? := hS.2.1
  exact ⟨((h1.kept hk).narrow hA).moved hW.alike, ((h2.kept hk).narrow hA).moved hW.alike, ((h3.kept hk).narrow hA).moved hW.alike, h4, ((h5.kept hk).narrow hA).moved hW.alike, ((h6.kept hk).narrow hA).moved hW.alike, fun q hq => by obtain ⟨a, ha⟩ := h7 q hq; exact ⟨a, ha.warm hW⟩⟩
/-- a method's start: its object's world, the rest of the machine -/
def gPre (Dg : va_G) (cA : Nat → ClassId) (cnt : Nat → Int) (ad : Nat → Int → Nat) (oc : Nat → Nat) (E : Nat → Int → va_E) (As : List Value) (sz : Nat) : Array Value → State → Prop :=
  va_Pc As (fun U => U.heap.size = sz ∧ WP Dg cnt ad E U.heap ∧ va_K Dg vwCl (tyL cA) U ∧ ENV oc (WA cnt ad sz) U U.heap)
def gB (Dg : va_G) (cnt : Nat → Int) (ad : Nat → Int → Nat) (E : Nat → Int → va_E) : Unit → State → Prop := fun _ t => WP Dg cnt ad E t.heap
theorem gPre_blind {Dg : va_G} {cA : Nat → ClassId} {cnt : Nat → Int} {ad : Nat → Int → Nat} {oc : Nat → Nat} {E : Nat → Int → va_E} {As : List Value} {sz : Nat} : FrameBlind (gPre Dg cA cnt ad oc E As sz) := by
  intro a U g mk q
  obtain ⟨q0, q1, q2, q3, q4⟩ := q
  exact ⟨q0, q1, q2, va_K.moved (u := U) (U := U.calling g mk a) (Vm.Alike.refl U.vm) q3, ENV.same (u := U) (U := U.calling g mk a) rfl q4⟩
/-- contracts: an int, nothing, a long, an outcome -/
abbrev GI (l : Launch) (y : MethodName) (ws : List Cond) (rm : Room) (Dg : va_G) (cA : Nat → ClassId) (cnt : Nat → Int) (ad : Nat → Int → Nat) (oc : Nat → Nat) (E : Nat → Int → va_E) (As : List Value) (v : Int) (E' : Nat → Int → va_E) : Prop :=
  ∀ sz : Nat, Met l y ws rm (gPre Dg cA cnt ad oc E As sz) (va_Qi (fun (r : Int32) (_ : Unit) => r = zi v) (gB Dg cnt ad E') (WA cnt ad sz)) 0 0 (WA cnt ad sz)
abbrev GV (l : Launch) (y : MethodName) (ws : List Cond) (rm : Room) (Dg : va_G) (cA : Nat → ClassId) (cnt : Nat → Int) (ad : Nat → Int → Nat) (oc : Nat → Nat) (E : Nat → Int → va_E) (As : List Value) (E' : Nat → Int → va_E) : Prop :=
  ∀ sz : Nat, Met l y ws rm (gPre Dg cA cnt ad oc E As sz) (va_Qv (fun _ : Unit => True) (gB Dg cnt ad E') (WA cnt ad sz)) 0 0 (WA cnt ad sz)
abbrev GL (l : Launch) (y : MethodName) (ws : List Cond) (rm : Room) (Dg : va_G) (cA : Nat → ClassId) (cnt : Nat → Int) (ad : Nat → Int → Nat) (oc : Nat → Nat) (E : Nat → Int → va_E) (As : List Value) (v : Int) (E' : Nat → Int → va_E) : Prop :=
  ∀ sz : Nat, Met l y ws rm (gPre Dg cA cnt ad oc E As sz) (va_Ql (fun (r : Int64) (_ : Unit) => r = zl v) (gB Dg cnt ad E') (WA cnt ad sz)) 0 0 (WA cnt ad sz)
abbrev GR (l : Launch) (y : MethodName) (ws : List Cond) (rm : Room) (Dg : va_G) (cA : Nat → ClassId) (cnt : Nat → Int) (ad : Nat → Int → Nat) (oc : Nat → Nat) (E : Nat → Int → va_E) (As : List Value) (v : Nat) (E' : Nat → Int → va_E) : Prop :=
  ∀ sz : Nat, Met l y ws rm (gPre Dg cA cnt ad oc E As sz) (va_Qr (fun _ : Unit => True) (fun (_ : Unit) (a : Nat) (t : State) => a = oc v ∧ WP Dg cnt ad E' t.heap) (WA cnt ad sz)) 0 0 (WA cnt ad sz)
/-- a contract that throws the class of that name, its world as it was -/
abbrev GX (l : Launch) (y : MethodName) (ws : List Cond) (rm : Room) (Dg : va_G) (cA : Nat → ClassId) (cnt : Nat → Int) (ad : Nat → Int → Nat) (oc : Nat → Nat) (E : Nat → Int → va_E) (As : List Value) (X : String) : Prop :=
  ∀ sz : Nat, vx_Met l y ws rm (gPre Dg cA cnt ad oc E As sz) (fun _ _ _ _ => False) (vx_X (fun _ : Unit => True) (fun (F : String) (_ : Unit) (t : State) => F = X ∧ WP Dg cnt ad E t.heap) (WA cnt ad sz)) 1 6 (WA cnt ad sz)
/-- the state of a walk -/
def KX (p : Program) (c : Code) (cc : ByteArray) (s : State) (m : MethodId) (meth : Method) (args : Array Value) (own : String) (Ts : List Cond) (Dg : va_G) (cA : Nat → ClassId) (cnt : Nat → Int) (ad : Nat → Int → Nat) (oc : Nat → Nat) (A : Nat → Prop) (nL : Nat) (ret : Option FieldType) : Prop :=
  CX p c cc s m args own Ts Dg cA cnt ad A ∧ c.maxLocals = nL ∧ meth.sig.returnType = ret ∧ meth.locks = false ∧ ENV oc A s s.heap ∧ ∀ q, s.heap.size ≤ q → A q
section Starts
variable {l : Launch} {y : MethodName} {ws ws' : List Cond} {rm : Room} {Dg : va_G} {cA : Nat → ClassId} {cnt : Nat → Int} {ad : Nat → Int → Nat} {oc : Nat → Nat} {E E' : Nat → Int → va_E} {As : List Value} {cc : ByteArray} {maxL : Nat} {ret : Option FieldType}
theorem g_ent {Qc : Array Value → State → Outcome → State → Prop} {sz : Nat} (hy : plainName y.cls = true) (hw : ws = Cond.code y cc maxL ret :: ws') (hI : WI cnt ad) (hlen : (lg_sl As).length ≤ maxL)
    (body : ∀ (p : Program) (e : Env) (s : State) (m : MethodId) (below : List Frame) (meth : Method) (c : Code), KX p c cc s m meth As.toArray y.cls ws Dg cA cnt ad oc (WA cnt ad s.heap.size) maxL ret → WP Dg cnt ad E s.heap → va_S (WA cnt ad s.heap.size) s.heap s.heap [] → s.heap.size = sz → ∀ ls : Array Slot, lv_has ls maxL (lv_args 0 As) → W p l e (headSpec ws rm).room s m As.toArray below meth c s.heap [] 0 0 (MQ below Qc As.toArray s 0 0 (WA cnt ad s.heap.size)) (F0 m 0 ls [])) :
    Met l y ws rm (gPre Dg cA cnt ad oc E As sz) Qc 0 0 (WA cnt ad sz) := by
  refine Met.ofW (cc := cc) (maxL := maxL) (ret := ret) hy hw ?_
  intro p e s m args below meth c s₁ B hml hv
  obtain ⟨rfl, hsz, hW, hK, hE⟩ := hv
  have hts := atoms_spec (ws := ws) B.pre
  have hl := lv_entry As (n := maxL) hlen
  subst hsz
  rw [lg_entry_eq]
  exact body p e s m below meth c ⟨⟨B.exec, B.bytes, findClass_of_methodNamed B.named, hts, hK, hI, fun t i h0 h1 => Or.inl ⟨t, i, h0, h1, rfl⟩⟩, hml, B.returns, B.notSynchronized, hE, fun q h => Or.inr h⟩ hW va_S.rf rfl _ hl
theorem gx_ent {XC : String → State → State → Prop} {Qc : Array Value → State → Outcome → State → Prop} {sz : Nat} (hy : plainName y.cls = true) (hw : ws = Cond.code y cc maxL ret :: ws') (hI : WI cnt ad) (hlen : (lg_sl As).length ≤ maxL)
    (body : ∀ (p : Program) (e : Env) (s : State) (m : MethodId) (below : List Frame) (meth : Method) (c : Code), KX p c cc s m meth As.toArray y.cls ws Dg cA cnt ad oc (WA cnt ad s.heap.size) maxL ret → (∀ x ∈ c.exceptionTable.toList, False) → WP Dg cnt ad E s.heap → va_S (WA cnt ad s.heap.size) s.heap s.heap [] → s.heap.size = sz → ∀ ls : Array Slot, lv_has ls maxL (lv_args 0 As) → W p l e (headSpec ws rm).room s m As.toArray below meth c s.heap [] 0 0 (vx_MQ below Qc XC As.toArray s 1 6 (WA cnt ad s.heap.size)) (F0 m 0 ls [])) :
    vx_Met l y ws rm (gPre Dg cA cnt ad oc E As sz) Qc XC 1 6 (WA cnt ad sz) := by
  refine vx_ofW (cc := cc) (maxL := maxL) (ret := ret) hy hw ?_
  intro p e s m args below meth c s₁ B hml hno hv
  obtain ⟨rfl, hsz, hW, hK, hE⟩ := hv
  have hts := atoms_spec (ws := ws) B.pre
  have hl := lv_entry As (n := maxL) hlen
  subst hsz
  rw [lg_entry_eq]
  exact body p e s m below meth c ⟨⟨B.exec, B.bytes, findClass_of_methodNamed B.named, hts, hK, hI, fun t i h0 h1 => Or.inl ⟨t, i, h0, h1, rfl⟩⟩, hml, B.returns, B.notSynchronized, hE, fun q h => Or.inr h⟩ hno hW va_S.rf rfl _ hl
end Starts
section Ends
variable {p : Program} {l : Launch} {e : Env} {R : Room} {s : State} {m : MethodId} {args : Array Value} {below : List Frame} {meth : Method} {c : Code} {H : Heap} {locs : List Loc} {cc : ByteArray} {pc : Nat} {ls : Array Slot} {own : String} {Ts : List Cond} {Dg : va_G} {cA : Nat → ClassId} {cnt : Nat → Int} {ad : Nat → Int → Nat} {oc : Nat → Nat} {A : Nat → Prop} {E : Nat → Int → va_E} {nL : Nat}
theorem k_iret {v w : Int} (hX : KX p c cc s m meth args own Ts Dg cA cnt ad oc A nL (some .int)) (hv : v = w) (hW : WP Dg cnt ad E H) (hS : va_S A s.heap H locs) (hdg : decode cc pc = .ok (.ireturn, 1)) :
    W p l e R s m args below meth c H locs 0 0 (MQ below (va_Qi (fun (r : Int32) (_ : Unit) => r = zi w) (gB Dg cnt ad E) A) args s 0 0 A) (F0 m pc ls [.int (zi v)]) :=
  W.iret (v := zi v) hX.1.1 hX.1.2.1 hX.2.2.1 (fun t ht _ => ⟨⟨_, (), rfl, by rw [hv], by show WP Dg cnt ad E t.heap; rw [ht]; exact hW⟩, hS.F ht⟩) hS.2.2 hdg hX.2.2.2.1
theorem k_vret (hX : KX p c cc s m meth args own Ts Dg cA cnt ad oc A nL none) (hW : WP Dg cnt ad E H) (hS : va_S A s.heap H locs) (hdg : decode cc pc = .ok (.return_, 1)) :
    W p l e R s m args below meth c H locs 0 0 (MQ below (va_Qv (fun _ : Unit => True) (gB Dg cnt ad E) A) args s 0 0 A) (F0 m pc ls []) :=
  W.vret hX.1.1 hX.1.2.1 hX.2.2.1 (fun t ht _ => ⟨⟨(), rfl, trivial, by show WP Dg cnt ad E t.heap; rw [ht]; exact hW⟩, hS.F ht⟩) hS.2.2 hdg hX.2.2.2.1
theorem k_aret {rt : FieldType} {o : Nat} (hX : KX p c cc s m meth args own Ts Dg cA cnt ad oc A nL (some rt)) (hW : WP Dg cnt ad E H) (hS : va_S A s.heap H locs) (hdg : decode cc pc = .ok (.areturn, 1)) (hrt : ∃ C, rt = .object C) :
    W p l e R s m args below meth c H locs 0 0 (MQ below (va_Qr (fun _ : Unit => True) (fun (_ : Unit) (a : Nat) (t : State) => a = oc o ∧ WP Dg cnt ad E t.heap) A) args s 0 0 A) (F0 m pc ls [.ref (oc o)]) := by
  obtain ⟨C, rfl⟩ := hrt
  exact W.aret (v := .ref (oc o)) (rt := .object C) hX.1.1 hX.1.2.1 hX.2.2.1 (Or.inl ⟨C, rfl⟩) (Or.inr ⟨_, rfl⟩) (fun t ht _ => ⟨⟨(), oc o, rfl, trivial, rfl, by rw [ht]; exact hW⟩, hS.F ht⟩) hS.2.2 hdg hX.2.2.2.1
end Ends
end BASE2
