section BASE9
variable {p : Program} {l : Launch} {e : Env} {R : Room} {s : State} {m : MethodId} {args : Array Value} {below : List Frame} {meth : Method} {c : Code} {H : Heap} {locs : List Loc} {cells slots : Nat} {Q : State → Prop} {cc bytes : ByteArray} {pc index maxL : Nat} {ls : Array Slot} {rest st0 : List Value} {own C : String} {Ts ws ws' : List Cond} {Dg : va_G} {cA : Nat → ClassId} {nL n b N ci : Nat} {y : MethodName} {rm : Room} {f g : Nat → va_E} {T : u_T} {fs : List Value}
/-- n cells from b on, with what they hold; nothing lies behind them -/
def HS (Dg : va_G) (b n : Nat) (f : Nat → va_E) (H : Heap) : Prop := H.size = b + n ∧ ∀ k : Nat, k < n → va_at Dg vwCl (b + k, f k) H
def fu (f : Nat → va_E) (k : Nat) (e : va_E) : Nat → va_E := fun j => if j = k then e else f j
def fj (f g : Nat → va_E) (n0 : Nat) : Nat → va_E := fun j => if j < n0 then f j else g (j - n0)
def NA (b : Nat) : Nat → Prop := fun q => b ≤ q
theorem HS.conv (h : HS Dg b n f H) (hf : ∀ k : Nat, k < n → f k = g k) : HS Dg b n g H := ⟨h.1, fun k hk => by rw [← hf k hk]; exact h.2 k hk⟩
theorem HS.kept {H1 : Heap} (h : HS Dg b n f H) (hz : H1.size = H.size) (hk : ∀ q : Nat, q < H.size → b ≤ q → H1[q]? = H[q]?) : HS Dg b n f H1 := ⟨by rw [hz]; exact h.1, fun k hk' => (h.2 k hk').kept (hk _ (by rw [h.1]; show b + k < b + n; omega) (by show b ≤ b + k; omega))⟩
theorem HS.push {H1 : Heap} {ev : va_E} (h : HS Dg b n f H) (z1 : H1.size = H.size + 1) (o1 : ∀ q : Nat, q < H.size → H1[q]? = H[q]?) (he : va_at Dg vwCl (b + n, ev) H1) : HS Dg b (n + 1) (fu f n ev) H1 := by
  refine ⟨by rw [z1, h.1]; omega, fun k hk => ?_⟩
  unfold fu
  by_cases hx : k = n
  · subst hx
    rw [if_pos rfl]
    exact he
  · rw [if_neg hx]
    exact (h.2 k (by omega)).kept (o1 _ (by rw [h.1]; show b + k < b + n; omega))
theorem HS.upd {H1 : Heap} {j : Nat} {ev : va_E} (h : HS Dg b n f H) (z1 : H1.size = H.size) (oq : ∀ q : Nat, q ≠ b + j → H1[q]? = H[q]?) (he : va_at Dg vwCl (b + j, ev) H1) : HS Dg b n (fu f j ev) H1 := by
  refine ⟨by rw [z1, h.1], fun k hk => ?_⟩
  unfold fu
  by_cases hx : k = j
  · subst hx
    rw [if_pos rfl]
    exact he
  · rw [if_neg hx]
    exact (h.2 k hk).kept (oq _ (by show b + k ≠ b + j; omega))
theorem va_S.push {A : Nat → Prop} {H0 H1 : Heap} (hS : va_S A H0 H locs) (z1 : H1.size = H.size + 1) (o1 : ∀ q : Nat, q < H.size → H1[q]? = H[q]?) : va_S A H0 H1 locs :=
  ⟨Nat.le_trans hS.1 (by omega), fun x h1 h2 => (o1 x (Nat.lt_of_lt_of_le h1 hS.1)).trans (hS.2.1 x h1 h2), hS.2.2⟩
abbrev aoL : List String := ["KioskReel$Reel", "KioskReel$Kiosk", "KioskReel$Player", "KioskReel$Device", "KioskReel$Visitor"]
/-- the links to the nest mates' private constructors -/
abbrev nwL : List Cond := [.methodLinkNest "KioskReel" 39 yX5_init "KioskReel", .methodLinkNest "KioskReel" 40 yX1_init "KioskReel", .methodLinkNest "KioskReel" 42 yX0_init "KioskReel", .methodLinkNest "KioskReel" 43 yX6_init "KioskReel", .methodLinkNest "KioskReel$Kiosk" 11 yX4_init "KioskReel", .methodLinkNest "KioskReel$Player" 31 yX5_init "KioskReel", .methodLinkNest "KioskReel$Device" 11 yX4_init "KioskReel"]
def AOW (U : State) : Prop := (∀ C ∈ aoL, va_AO C U) ∧ ∀ w ∈ nwL, va_Nw w U
theorem AOW.same {u U : State} (h : u.vm = U.vm) (hA : AOW u) : AOW U := by
  refine ⟨fun C hC => va_AO.moved (by rw [h]; exact Vm.Alike.refl _) (hA.1 C hC), fun w hw => ?_⟩
  have q := hA.2 w hw
  simp only [nwL, List.mem_cons, List.not_mem_nil, or_false] at hw
  rcases hw with rfl | rfl | rfl | rfl | rfl | rfl | rfl <;> exact va_Nw.same rfl h q
theorem AOW.warm {U : State} (h : s.WarmedH U.vm) (hA : AOW s) : AOW U := by
  refine ⟨fun C hC => va_AO.moved h.alike (hA.1 C hC), fun w hw => ?_⟩
  have q := hA.2 w hw
  simp only [nwL, List.mem_cons, List.not_mem_nil, or_false] at hw
  rcases hw with rfl | rfl | rfl | rfl | rfl | rfl | rfl <;> exact va_Nw.warmM h q
/-- what a constructor's walk stands on -/
def CN (p : Program) (c : Code) (cc : ByteArray) (s : State) (m : MethodId) (meth : Method) (args : Array Value) (own : String) (Ts : List Cond) (Dg : va_G) (cA : Nat → ClassId) (nL b : Nat) : Prop :=
  p.tables.exec = Jvm.exec ∧ c.code = cc ∧ s.vm.findClass own = some m.cls ∧ (∀ w ∈ Ts, w.before args s = true) ∧ va_K Dg vwCl (tyL cA) s ∧ AOW s ∧ meth.sig.returnType = none ∧ meth.locks = false ∧ meth.name = "<init>" ∧ c.maxLocals = nL ∧ s.heap.size = b + 1
abbrev GN (l : Launch) (y : MethodName) (ws : List Cond) (rm : Room) (Dg : va_G) (cA : Nat → ClassId) (b ci : Nat) (fs : List Value) (n : Nat) (f : Nat → va_E) (mc ms : Nat) : Prop :=
  Met l y ws rm (va_Pc [.ref b] (fun U => HS Dg b 1 (fun _ => .inr (ci, fs)) U.heap ∧ va_K Dg vwCl (tyL cA) U ∧ AOW U)) (va_Qv (fun _ : Unit => True) (fun (_ : Unit) (t : State) => HS Dg b n f t.heap) (NA b)) mc ms (NA b)
theorem n_ent {mc ms : Nat} (hy : plainName y.cls = true) (hw : ws = Cond.code y cc maxL none :: ws') (hn : y.name = "<init>") (h1 : 1 ≤ maxL)
    (body : ∀ (p : Program) (e : Env) (s : State) (m : MethodId) (below : List Frame) (meth : Method) (c : Code), CN p c cc s m meth [Value.ref b].toArray y.cls ws Dg cA maxL b → HS Dg b 1 (fun _ => .inr (ci, fs)) s.heap → va_S (NA b) s.heap s.heap [] → ∀ ls : Array Slot, lv_has ls maxL [(0, .ref b)] → W p l e (headSpec ws rm).room s m [Value.ref b].toArray below meth c s.heap [] 0 0 (MQ below (va_Qv (fun _ : Unit => True) (fun (_ : Unit) (t : State) => HS Dg b n f t.heap) (NA b)) [Value.ref b].toArray s mc ms (NA b)) (F0 m 0 ls [])) :
    GN l y ws rm Dg cA b ci fs n f mc ms := by
  refine Met.ofW (cc := cc) (maxL := maxL) (ret := none) hy hw ?_
  intro p e s m args below meth c s₁ B hml hv
  obtain ⟨rfl, hH, hK, hAO⟩ := hv
  have hl := lv_entry [Value.ref b] (n := maxL) h1
  rw [lg_entry_eq]
  exact body p e s m below meth c ⟨B.exec, B.bytes, findClass_of_methodNamed B.named, atoms_spec (ws := ws) B.pre, hK, hAO, B.returns, B.notSynchronized, by rw [(name_of_methodNamed B.named B.method).1]; exact hn, hml, hH.1⟩ hH va_S.rf _ hl
theorem h_new (hC : CN p c cc s m meth args own Ts Dg cA nL b) (hin : ∀ w ∈ u_ws C T N, w ∈ Ts) (ty : Nat → FieldType) (hty : ∀ k, k < N → parseFieldDescriptor (T k).2.2.1 = some (ty k)) (hcl : (Cond.classLink own index C).before args s = true) (hinst : (Cond.instantiable C N).before args s = true) (hini : (Cond.initialized C).before args s = true) (hc : vwCl[ci]? = some (C, T, N)) (fs : List Value) (hfs : ∀ j, j < N → defaultValue (ty j) = vp_V fs j) (hH : HS Dg b n f H) (hS : va_S (NA b) s.heap H locs) (hcells : cells + 1 ≤ R.cells) (hslots : slots + N ≤ R.slots) (hdg : decode cc pc = .ok (.new index, 3))
    (kk : ∀ H1 : Heap, HS Dg b (n + 1) (fu f n (.inr (ci, fs))) H1 → va_S (NA b) s.heap H1 locs → W p l e R s m args below meth c H1 locs (cells + 1) (slots + N) Q (F0 m (pc + 3) ls (.ref (b + n) :: rest))) : W p l e R s m args below meth c H locs cells slots Q (F0 m pc ls rest) := by
  obtain ⟨hx, hb, hown, hts, hK, -⟩ := hC
  have hKn := hK.1 ci _ hc
  refine W.newcK hx hb hown hcl hinst hini rfl hdg hcells hslots hKn.2.1 hH.1 fun H1 kC hkC e1 z1 o1 => ?_
  have z2 : H1.size = H.size + 1 := by rw [z1, hH.1]
  have o2 : ∀ q : Nat, q < H.size → H1[q]? = H[q]? := fun q hq => o1 q (by rw [← hH.1]; exact hq)
  exact kk H1 (hH.push z2 o2 ⟨_, hc, (u_born ty hts hin hKn hkC e1 hty).to hfs⟩) (hS.push z2 o2)
theorem h_newa {atype : ArrayType} {ty : FieldType} (t0 : Nat) {M : Nat} (hC : CN p c cc s m meth args own Ts Dg cA nL b) (harr : (Cond.arrayClass (newarray.typeOf atype)).before args s = true) (hty : newarray.typeOf atype = ty) (ht : (tyL cA)[t0]? = some (cA t0, ty)) (hp : ty = .char ∨ ty = .int ∨ ty = .boolean) {v : Int} (hv : v = M) (hM : M ≤ 100000) (hH : HS Dg b n f H) (hS : va_S (NA b) s.heap H locs) (hcells : cells + 1 ≤ R.cells) (hslots : slots + M ≤ R.slots) (hdg : decode cc pc = .ok (.newarray atype, 2))
    (kk : ∀ H1 : Heap, HS Dg b (n + 1) (fu f n (.inl (cA t0, M, .inl (fun _ => zi 0)))) H1 → va_S (NA b) s.heap H1 locs → W p l e R s m args below meth c H1 locs (cells + 1) (slots + M) Q (F0 m (pc + 2) ls (.ref (b + n) :: rest))) : W p l e R s m args below meth c H locs cells slots Q (F0 m pc ls (.int (zi v) :: rest)) := by
  obtain ⟨hx, hb, hown, hts, hK, -⟩ := hC
  subst hv
  have hcl : (zi (M : Int)).toNatClampNeg = M := by rw [zi_cl (by omega) (by omega)]; omega
  have hpos : ¬ zi (M : Int) < 0 := by rw [z0, zi_lt ⟨by omega, by omega⟩ sm0]; omega
  have hcb : M * componentBytes ty ≤ 536870912 := by
    have h9 : componentBytes ty ≤ 8 := by rcases hp with rfl | rfl | rfl <;> decide
    exact Nat.le_trans (Nat.mul_le_mul hM h9) (by decide)
  subst hty
  refine va_newaK hx hb harr rfl hdg rfl hpos hcl hcb hcells hslots hH.1 fun H1 cA9 e1 z1 o1 hAr hNm => ?_
  have hid : cA9 = cA t0 := by
    have q := (hK.2 t0 _ ht).2
    have q : s.vm.findClass ("[" ++ (newarray.typeOf atype).toString) = some (cA t0) := by
      rcases hp with z | z | z <;> (rw [z] at q ⊢; exact q)
    exact Option.some.inj (hNm.symm.trans q)
  subst hid
  have z2 : H1.size = H.size + 1 := by rw [z1, hH.1]
  have o2 : ∀ q : Nat, q < H.size → H1[q]? = H[q]? := fun q hq => o1 q (by rw [← hH.1]; exact hq)
  refine kk H1 (hH.push z2 o2 ?_) (hS.push z2 o2)
  show H1[b + n]? = some (vp_cell _ _)
  rw [vp_cell_i, e1]
  have hd : defaultValue (newarray.typeOf atype) = .int (zi 0) := by rcases hp with z | z | z <;> (rw [z]; rfl)
  rw [hd]
theorem h_anew (t0 : Nat) {M : Nat} (hC : CN p c cc s m meth args own Ts Dg cA nL b) (hcl : (Cond.classLink own index C).before args s = true) (hA : C ∈ aoL) (ht : (tyL cA)[t0]? = some (cA t0, .object C)) {v : Int} (hv : v = M) (hM : M ≤ 100000) (hH : HS Dg b n f H) (hS : va_S (NA b) s.heap H locs) (hcells : cells + 1 ≤ R.cells) (hslots : slots + M ≤ R.slots) (hdg : decode cc pc = .ok (.anewarray index, 3))
    (kk : ∀ H1 : Heap, HS Dg b (n + 1) (fu f n (.inl (cA t0, M, .inr (.inr (.inr (.inr (fun _ => none))))))) H1 → va_S (NA b) s.heap H1 locs → W p l e R s m args below meth c H1 locs (cells + 1) (slots + M) Q (F0 m (pc + 3) ls (.ref (b + n) :: rest))) : W p l e R s m args below meth c H locs cells slots Q (F0 m pc ls (.int (zi v) :: rest)) := by
  obtain ⟨hx, hb, hown, hts, hK, hAO, -⟩ := hC
  subst hv
  have hcn : (zi (M : Int)).toNatClampNeg = M := by rw [zi_cl (by omega) (by omega)]; omega
  have hpos : ¬ zi (M : Int) < 0 := by rw [z0, zi_lt ⟨by omega, by omega⟩ sm0]; omega
  refine W.anew hx hb hown hcl (va_AO.use (hAO.1 _ hA)) rfl hdg rfl hpos (by rw [hcn]; omega) hcells (by rw [hcn]; exact hslots) fun cA9 kA comp f1 f2 f3 f4 => ?_
  rw [hcn]
  have hid : cA9 = cA t0 := by
    obtain ⟨_, _, _, _, _, q⟩ := (hK.2 t0 _ ht).2
    exact Option.some.inj (f1.symm.trans q)
  subst hid
  generalize hH1 : H.push ({ cls := cA t0, slots := Array.replicate M .null, vm := .none } : Cell) = H1
  have z1 : H1.size = H.size + 1 := by rw [← hH1, Array.size_push]
  have e1 : H1[H.size]? = some (arrV (cA t0) M (fun _ => .null)) := by rw [← hH1, Array.getElem?_push_size, ← arrV_new]
  have o1 : ∀ q : Nat, q < H.size → H1[q]? = H[q]? := fun q hq => by rw [← hH1, Array.getElem?_push, if_neg (Nat.ne_of_lt hq)]
  rw [hH.1]
  rw [hH.1] at e1
  refine kk H1 (hH.push z1 o1 ?_) (hS.push z1 o1)
  show H1[b + n]? = some (vp_cell _ _)
  rw [vp_cell_q]
  exact e1
theorem h_put (hC : CN p c cc s m meth args C Ts Dg cA nL b) (hin : ∀ w ∈ u_ws C T N, w ∈ Ts) (ty0 : Nat → FieldType) (hty : ∀ k, k < N → parseFieldDescriptor (T k).2.2.1 = some (ty0 k)) (hnm : ∀ a, a < N → ∀ b, b < N → a ≠ b → (T a).2.1 ≠ (T b).2.1) (hc : vwCl[ci]? = some (C, T, N)) (k : Nat) (hk : k < N) (hlink : (Cond.fieldLink C index C (T k).2.1 (T k).2.2.1).before args s = true) (hdecl : (T k).1 = C) {ty : FieldType} {v : Value} (hd : parseFieldDescriptor (T k).2.2.1 = some ty) (hn : narrow ty v = v) (hfit : fits ty v = true) (hl : k < fs.length) (hn0 : 0 < n) (he : f 0 = .inr (ci, fs)) (hH : HS Dg b n f H) (hS : va_S (NA b) s.heap H locs) (hdg : decode cc pc = .ok (.putfield index, 3))
    (kk : ∀ (H1 : Heap) (locs1 : List Loc), HS Dg b n (fu f 0 (.inr (ci, fs.set k v))) H1 → va_S (NA b) s.heap H1 locs1 → W p l e R s m args below meth c H1 locs1 cells slots Q (F0 m (pc + 3) ls rest)) : W p l e R s m args below meth c H locs cells slots Q (F0 m pc ls (v :: .ref b :: rest)) := by
  obtain ⟨hx, hb, hown, hts, hK, -, -, -, hin2, -⟩ := hC
  have hap := va_apart (own := C) hts hin ty0 hty hnm hK hc
  have h0 := hH.2 0 hn0
  rw [he] at h0
  obtain ⟨r, h1, cell, q1, q2, q3, q4⟩ := h0
  have hr : r = (C, T, N) := Option.some.inj (h1.symm.trans hc)
  subst hr
  have q1 : H[b]? = some cell := q1
  obtain ⟨hSl, hfc, kC, hkC, hkind⟩ := hK.1 ci _ hc
  obtain ⟨cf, kf, fi, fd, hi, hsl⟩ := hSl k hk
  have hlay := hts _ (hin _ (u_in_lay hk))
  unfold u_lay at hlay
  have hst := (u_facts hfc hkC (u_lays hts hin hk) hi).1
  have hsame : ∀ x, s.fieldFound? (T k).1 (T k).2.1 (T k).2.2.1 = some x → s.fieldFound? C (T k).2.1 (T k).2.2.1 = some x := fun x hx9 => by rw [hdecl] at hx9; exact hx9
  by_cases hfin : (T k).2.2.2 = true
  · rw [if_pos hfin] at hlay
    have hcf : m.cls = cf := by
      obtain ⟨_, _, c', _, _, _, -, -, hf', -, -, -, hown2, -⟩ := Cond.laysFinal_spec hlay
      have e1 : c' = cf := by have := hi.symm.trans hf'; simp at this; exact this.1.symm
      rw [hdecl] at hown2
      rw [← e1]; exact Option.some.inj (hown.symm.trans hown2)
    have h6 := u_fits hfc hkC hkind (Or.inr hlay) hi hd hn hfit
    refine W.putFinK hx hb hown hlink (hsame _ hi) hst hcf hin2 (by rw [q2]; exact h6) q1 q3 (by rw [hsl]; exact k2_hasslot (q4 k hk)) rfl rfl hdg fun H' e1 e2 e3 => ?_
    rw [hsl] at e1 ⊢
    exact kk H' _ (hH.upd (j := 0) e2 e3 ⟨_, hc, t_OB.to (V := updV (vp_V fs) k v) ⟨_, e1, q2, q3, t_set q4 hap hk v⟩ (fun j _ => vp_updV_set hl v j)⟩) (hS.put e2 e3 (Nat.le_refl _))
  · rw [if_neg hfin] at hlay
    have h6 := u_store hfc hkC hkind hlay hi hd hn hfit
    refine W.putK hx hb (f := fd) ⟨hown, hlink, ⟨_, _, _, hsame _ hi⟩, hst⟩ (by rw [q2]; exact h6) q1 q3 (by rw [hsl]; exact k2_hasslot (q4 k hk)) rfl rfl hdg fun H' e1 e2 e3 => ?_
    rw [hsl] at e1 ⊢
    exact kk H' _ (hH.upd (j := 0) e2 e3 ⟨_, hc, t_OB.to (V := updV (vp_V fs) k v) ⟨_, e1, q2, q3, t_set q4 hap hk v⟩ (fun j _ => vp_updV_set hl v j)⟩) (hS.put e2 e3 (Nat.le_refl _))
theorem h_get (hC : CN p c cc s m meth args C Ts Dg cA nL b) (hin : ∀ w ∈ u_ws C T N, w ∈ Ts) (hc : vwCl[ci]? = some (C, T, N)) (k : Nat) (hk : k < N) (hlink : (Cond.fieldLink C index C (T k).2.1 (T k).2.2.1).before args s = true) (hdecl : (T k).1 = C) {v : Value} (hv : fs[k]? = some v) (hn0 : 0 < n) (he : f 0 = .inr (ci, fs)) (hH : HS Dg b n f H) (hdg : decode cc pc = .ok (.getfield index, 3))
    (kk : W p l e R s m args below meth c H locs cells slots Q (F0 m (pc + 3) ls (v :: rest))) : W p l e R s m args below meth c H locs cells slots Q (F0 m pc ls (.ref b :: rest)) := by
  have hP : va_P Dg vwCl [(b, .inr (ci, fs))] H := by
    intro j q hj
    have hz : j < 1 := (List.getElem?_eq_some_iff.mp hj).1
    rw [show j = 0 by omega] at hj
    cases hj
    have h0 := hH.2 0 hn0
    rw [he] at h0
    exact h0
  exact va_get (D := Dg) hC.1 hC.2.1 hC.2.2.2.1 hin hC.2.2.1 hC.2.2.2.2.1 hP 0 rfl hc k hk hlink (fun x hx9 => by rw [hdecl] at hx9; exact hx9) hv hdg kk
theorem h_aast (t0 : Nat) {M j v : Nat} {vs : List Value} {g : Nat → Option Nat} {x : Int} (hC : CN p c cc s m meth args own Ts Dg cA nL b) (hj : j < n) (he : f j = .inl (cA t0, M, .inr (.inr (.inr (.inr g))))) (ht : (tyL cA)[t0]? = some (cA t0, .object C)) (hv : v < n) (hvv : f v = .inr (ci, vs)) (hc : vwCl[ci]? = some (C, T, N)) (hx0 : 0 ≤ x ∧ x < M) (hM : M ≤ 100000) (hH : HS Dg b n f H) (hS : va_S (NA b) s.heap H locs) (hdg : decode cc pc = .ok (.aastore, 1))
    (kk : ∀ (H1 : Heap) (locs1 : List Loc), HS Dg b n (fu f j (.inl (cA t0, M, .inr (.inr (.inr (.inr (va_up g x.toNat (some (b + v)))))))) ) H1 → va_S (NA b) s.heap H1 locs1 → W p l e R s m args below meth c H1 locs1 cells slots Q (F0 m (pc + 1) ls rest)) : W p l e R s m args below meth c H locs cells slots Q (F0 m pc ls (.ref (b + v) :: .int (zi x) :: .ref (b + j) :: rest)) := by
  obtain ⟨hx, hb, hown, hts, hK, -⟩ := hC
  have hcl : (zi x).toNatClampNeg = x.toNat := zi_cl hx0.1 (by omega)
  have h0 : ¬ zi x < 0 := by rw [z0, zi_lt ⟨by omega, by omega⟩ sm0]; omega
  have hja := hH.2 j hj
  rw [he] at hja
  have hva := hH.2 v hv
  rw [hvv] at hva
  obtain ⟨r', hr', cellV, g1, g2, g3, -⟩ := hva
  have hr : r' = (C, T, N) := Option.some.inj (hr'.symm.trans hc)
  subst hr
  have hcls := (hK.1 ci _ hc).2
  obtain ⟨kA, comp, k1, k2, k3, -⟩ := (hK.2 t0 _ ht).2
  have hcomp : comp = Dg.1 ci := Option.some.inj (k3.symm.trans hcls.1)
  subst hcomp
  obtain ⟨kC, hkC, -⟩ := hcls.2
  refine W.aast hx hb hja (fun q h => by cases h) (fun h => by cases h) k1 k2 rfl hkC ⟨h0, by show _ < (arrV _ _ _).slots.size; rw [arrV_size, hcl]; show x.toNat < M; omega⟩ g1 (fun q h => by rw [g3] at h; cases h) (by rw [g2]; exact hkC) (by rw [g2]; exact va_assign hcls) rfl rfl hdg fun H1 e9 z oq => ?_
  refine kk H1 _ (hH.upd (j := j) z oq ?_) (hS.put z oq (by show b ≤ b + j; omega))
  show H1[b + j]? = some (vp_cell _ _)
  rw [e9]
  rw [vp_cell_q, vp_cell_q, arrV_store, hcl]
  congr 2
  funext q
  by_cases hq : q = x.toNat
  · subst hq
    simp [updV, va_up, va_rf]
  · simp [updV, va_up, hq]
/-- the call of a constructor on the cell made last -/
theorem pre_ctor {ci2 n0 : Nat} {fs2 : List Value} (hC : CN p c cc s m meth args own Ts Dg cA nL b) (hn : n = n0 + 1) (he : f n0 = .inr (ci2, fs2)) (hH : HS Dg b n f H) : PreS s H (va_Pc [.ref (b + n0)] (fun U => HS Dg (b + n0) 1 (fun _ => .inr (ci2, fs2)) U.heap ∧ va_K Dg vwCl (tyL cA) U ∧ AOW U)) [.ref (b + n0)] := by
  subst hn
  have hpre : HS Dg (b + n0) 1 (fun _ => .inr (ci2, fs2)) H := ⟨hH.1, fun k hk => by
    have hk0 : k = 0 := by omega
    subst hk0
    have h9 := hH.2 n0 (by omega)
    rw [he] at h9
    exact h9⟩
  exact ⟨fun a U g mk q => by obtain ⟨q0, q1, q2, q3⟩ := q; exact ⟨q0, q1, va_K.moved (u := U) (U := U.calling g mk a) (Vm.Alike.refl U.vm) q2, AOW.same (u := U) (U := U.calling g mk a) rfl q3⟩, fun U hU hWm => ⟨rfl, by rw [hU]; exact hpre, va_K.moved hWm.alike hC.2.2.2.2.1, AOW.warm hWm hC.2.2.2.2.2.1⟩⟩
theorem h_ctor0 {n0 n2 mc ms : Nat} {f2 : Nat → va_E} {a : Array Value} (hn : n = n0 + 1) (hH : HS Dg b n f H) (hS : va_S (NA b) s.heap H locs) (hr : va_Run p l e R s m args below meth c H locs cells slots mc ms (F0 m pc ls (.ref (b + n0) :: rest)) rest (va_Qv (fun _ : Unit => True) (fun (_ : Unit) (t : State) => HS Dg (b + n0) n2 f2 t.heap) (NA (b + n0)) a) (NA (b + n0)))
    (kk : ∀ (H1 : Heap) (locs1 : List Loc), HS Dg b (n0 + n2) (fj f f2 n0) H1 → va_S (NA b) s.heap H1 locs1 → W p l e R s m args below meth c H1 locs1 (cells + mc) (slots + ms) Q (F0 m (pc + 3) ls rest)) : W p l e R s m args below meth c H locs cells slots Q (F0 m pc ls (.ref (b + n0) :: rest)) := by
  subst hn
  have hA1 : ∀ q : Nat, NA (b + n0) q → NA b q := fun q h => Nat.le_trans (Nat.le_add_right _ _) h
  refine va_callv hr hS (fun q _ h => hA1 q h) hA1 (fun u t H1 locs1 ht _ _ hB hz hk hS1 => ?_)
  have hB : HS Dg (b + n0) n2 f2 t.heap := hB
  rw [ht] at hB
  refine kk H1 locs1 ⟨by rw [hB.1]; omega, fun k hk9 => ?_⟩ hS1
  unfold fj
  by_cases hx : k < n0
  · rw [if_pos hx]
    exact (hH.2 k (by omega)).kept (hk _ (by rw [hH.1]; show b + k < b + (n0 + 1); omega) (fun z => by have z : b + n0 ≤ b + k := z; omega))
  · rw [if_neg hx]
    have h9 := hB.2 (k - n0) (by omega)
    rw [show b + n0 + (k - n0) = b + k by omega] at h9
    exact h9
theorem h_ctor {ci2 n0 n2 mc ms : Nat} {fs2 : List Value} {f2 : Nat → va_E} (hC : CN p c cc s m meth args own Ts Dg cA nL b) (hls : ls.size = nL) (hn : n = n0 + 1) (he : f n0 = .inr (ci2, fs2)) (hM : GN l y ws rm Dg cA (b + n0) ci2 fs2 n2 f2 mc ms) (cw : CallB R s args own index y bytes maxL none ws rm mc ms 0 ∧ y.name = "<init>" ∧ (Cond.instanceMethod y).before args s = true) (hH : HS Dg b n f H) (hS : va_S (NA b) s.heap H locs) (hf : cells + mc ≤ R.cells ∧ slots + ms ≤ R.slots) (hcat : (rest.map fun v => v.category).sum ≤ 8) (hdg : decode cc pc = .ok (.invokespecial index, 3))
    (kk : ∀ (H1 : Heap) (locs1 : List Loc), HS Dg b (n0 + n2) (fj f f2 n0) H1 → va_S (NA b) s.heap H1 locs1 → W p l e R s m args below meth c H1 locs1 (cells + mc) (slots + ms) Q (F0 m (pc + 3) ls rest)) : W p l e R s m args below meth c H locs cells slots Q (F0 m pc ls (.ref (b + n0) :: rest)) :=
  h_ctor0 hn hH hS (va_runI (As := []) (rest := rest) ⟨hC.1, hC.2.1, hC.2.2.2.2.2.2.2.2.2.1, hC.2.2.1, hC.2.2.2.1⟩ hM cw (pre_ctor hC hn he hH) rfl rfl hls rfl (lv_room hcat) hdg hf) kk
theorem h_ctorN {host : String} {ci2 n0 n2 mc ms : Nat} {fs2 : List Value} {f2 : Nat → va_E} (hC : CN p c cc s m meth args own Ts Dg cA nL b) (hls : ls.size = nL) (hn : n = n0 + 1) (he : f n0 = .inr (ci2, fs2)) (hM : GN l y ws rm Dg cA (b + n0) ci2 fs2 n2 f2 mc ms) (hG : GoodIn Ts ws) (hw : ws = Cond.code y bytes maxL none :: ws') (hrc : rm.cells = mc) (hrs : rm.slots = ms) (hl : Cond.methodLinkNest own index y host ∈ nwL) (hini : (Cond.initialized y.cls).before args s = true) (hin : (Cond.instanceMethod y).before args s = true) (hy1 : y.name = "<init>") (hd : y.cls ≠ "java/lang/invoke/MethodHandle" ∧ y.cls ≠ "java/lang/invoke/VarHandle" ∧ (parseMethodDescriptor y.desc).map (fun d => d.parameters.length) = some 0) (hR : rm.frames + 1 ≤ R.frames ∧ 8 + (maxL + 11) + rm.locals ≤ R.locals) (hH : HS Dg b n f H) (hS : va_S (NA b) s.heap H locs) (hf : cells + mc ≤ R.cells ∧ slots + ms ≤ R.slots) (hcat : (rest.map fun v => v.category).sum ≤ 8) (hdg : decode cc pc = .ok (.invokespecial index, 3))
    (kk : ∀ (H1 : Heap) (locs1 : List Loc), HS Dg b (n0 + n2) (fj f f2 n0) H1 → va_S (NA b) s.heap H1 locs1 → W p l e R s m args below meth c H1 locs1 (cells + mc) (slots + ms) Q (F0 m (pc + 3) ls rest)) : W p l e R s m args below meth c H locs cells slots Q (F0 m pc ls (.ref (b + n0) :: rest)) :=
  h_ctor0 hn hH hS (va_runIN (host := host) (As := []) (rest := rest) ⟨hC.1, hC.2.1, hC.2.2.2.2.2.2.2.2.2.1, hC.2.2.1, hC.2.2.2.1⟩ hM ⟨va_cnB 0 hC.2.2.2.1 hG hw hrc hrs (hC.2.2.2.2.2.1.2 _ hl) hini hd hR, hy1, hin⟩ (pre_ctor hC hn he hH) rfl rfl hls rfl (lv_room hcat) hdg hf) kk
theorem h_ret (hC : CN p c cc s m meth args own Ts Dg cA nL b) (hH : HS Dg b n f H) (hS : va_S (NA b) s.heap H locs) (hdg : decode cc pc = .ok (.return_, 1)) :
    W p l e R s m args below meth c H locs cells slots (MQ below (va_Qv (fun _ : Unit => True) (fun (_ : Unit) (t : State) => HS Dg b n f t.heap) (NA b)) args s cells slots (NA b)) (F0 m pc ls []) :=
  W.vret hC.1 hC.2.1 hC.2.2.2.2.2.2.1 (fun t ht _ => ⟨⟨(), rfl, trivial, by show HS Dg b n f t.heap; rw [ht]; exact hH⟩, hS.F ht⟩) hS.2.2 hdg hC.2.2.2.2.2.2.2.1
theorem h_obj {idx : Nat} (hC : CN p c cc s m meth args own Ts Dg cA nL b) (hls : ls.size = nL) (h1 : Cond.methodLink own idx objectInit ∈ Ts) (h2 : Cond.instanceMethod objectInit ∈ Ts) (h3 : Cond.code objectInit ⟨#[0xb1]⟩ 1 none ∈ Ts) (hd : decode cc pc = .ok (.invokespecial idx, 3)) (hR : 1 ≤ R.frames ∧ 12 ≤ R.locals)
    (kk : W p l e R s m args below meth c H locs cells slots Q (F0 m (pc + 3) ls [])) : W p l e R s m args below meth c H locs cells slots Q (F0 m pc ls [.ref b]) :=
  W.objInit hC.1 hC.2.1 hC.2.2.1 (hC.2.2.2.1 _ h1) (hC.2.2.2.1 _ h2) (hC.2.2.2.1 _ h3) rfl (by rw [hC.2.2.2.2.2.2.2.2.2.1]; exact hls) rfl hd hR.1 hR.2 kk
theorem cx0 (hC : CN p c cc s m meth args own Ts Dg cA nL b) : CX p c cc s m args own Ts Dg cA (fun _ => 0) (fun _ _ => 0) (NA b) :=
  ⟨hC.1, hC.2.1, hC.2.2.1, hC.2.2.2.1, hC.2.2.2.2.1, fun t i t' i' h0 h1 => absurd h1 (by show ¬ i < (0 : Int); omega), fun t i h0 h1 => absurd h1 (by show ¬ i < (0 : Int); omega)⟩
end BASE9
