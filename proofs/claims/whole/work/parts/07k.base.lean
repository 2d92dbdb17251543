section FLOATS
/-- n sixths as a float, its bits -/
def hsB (n : Int) : UInt32 := if n = 0 then 0 else if n = 1 then 1042983595 else if n = 2 then 1051372203 else if n = 3 then 1056964608 else if n = 4 then 1059760811 else if n = 5 then 1062557013 else 1065353216
def hbB (n : Int) : Int := if n = 0 then 0 else if n = 1 then 1042983595 else if n = 2 then 1051372203 else if n = 3 then 1056964608 else if n = 4 then 1059760811 else if n = 5 then 1062557013 else 1065353216
theorem six_cases {n : Int} (h : 0 ≤ n ∧ n ≤ 6) : n = 0 ∨ n = 1 ∨ n = 2 ∨ n = 3 ∨ n = 4 ∨ n = 5 ∨ n = 6 := by omega
theorem hsB_div {n : Int} (h : 0 ≤ n ∧ n ≤ 6) : FP.fdiv (FP.i2f (zi n)) 1086324736 = hsB n := by
  rcases six_cases h with rfl | rfl | rfl | rfl | rfl | rfl | rfl <;> decide +kernel
theorem hsB_n {n : Int} (h : 0 ≤ n ∧ n ≤ 6) : vf_n32 (hsB n) := by
  unfold vf_n32
  rcases six_cases h with rfl | rfl | rfl | rfl | rfl | rfl | rfl <;> decide +kernel
theorem hsB_cmp {n : Int} (h : 0 ≤ n ∧ n ≤ 6) : Op.cmpValue (FP.fcmp (hsB n) (hsB n)) CmpOp.l = zi 0 := by
  rcases six_cases h with rfl | rfl | rfl | rfl | rfl | rfl | rfl <;> decide +kernel
theorem hsB_bits {n : Int} (h : 0 ≤ n ∧ n ≤ 6) : (hsB n).toInt32 = zi (hbB n) := by
  rcases six_cases h with rfl | rfl | rfl | rfl | rfl | rfl | rfl <;> decide +kernel
theorem hsB_d {n : Int} (h : 0 ≤ n ∧ n ≤ 6) : vf_n64 (FP.f2d (hsB n)) := by
  unfold vf_n64
  rcases six_cases h with rfl | rfl | rfl | rfl | rfl | rfl | rfl <;> decide +kernel
theorem hsB_dcmp {n : Int} (h : 0 ≤ n ∧ n ≤ 6) : Op.cmpValue (FP.dcmp (FP.f2d (hsB n)) (FP.f2d (hsB n))) CmpOp.l = zi 0 := by
  rcases six_cases h with rfl | rfl | rfl | rfl | rfl | rfl | rfl <;> decide +kernel
def sigD (d : FP.Core.Datum) : Nat := match d with
  | .fin _ c _ => c
  | _ => 1
theorem ten_cases {n : Int} (h : 1 ≤ n ∧ n ≤ 10) : n = 1 ∨ n = 2 ∨ n = 3 ∨ n = 4 ∨ n = 5 ∨ n = 6 ∨ n = 7 ∨ n = 8 ∨ n = 9 ∨ n = 10 := by omega
theorem i2d_sig {n : Int} (h : 1 ≤ n ∧ n ≤ 10) : sigD (FP.Core.val64 (FP.Core.i2d (zi n))) ≠ 0 := by
  rcases ten_cases h with rfl | rfl | rfl | rfl | rfl | rfl | rfl | rfl | rfl | rfl <;> decide +kernel
/-- the mean: a sum by a number of visitors -/
def dmB (S n : Int) : UInt64 := FP.ddiv (FP.l2d (zl S)) (FP.i2d (zi n))
theorem dmB_nan {S n : Int} (h : 1 ≤ n ∧ n ≤ 10) : FP.Core.val64 (dmB S n) ≠ .nan := by
  show FP.Core.val64 (FP.Core.ddiv (FP.Core.l2d (zl S)) (FP.Core.i2d (zi n))) ≠ .nan
  rw [FP.Core.val64_ddiv, Ne, FP.Core.quotient_nan]
  obtain ⟨s1, c1, q1, e1⟩ := FP.Core.l2d_fin (zl S)
  obtain ⟨s2, c2, q2, e2⟩ := FP.Core.i2d_fin (zi n)
  have hs := i2d_sig h
  rw [e1, e2] at *
  rintro (z | z | ⟨_, _, z, _⟩ | ⟨_, _, _, _, _, z⟩)
  · cases z
  · cases z
  · cases z
  · cases z
    exact hs rfl
theorem dmB_n {S n : Int} (h : 1 ≤ n ∧ n ≤ 10) : vf_n64 (dmB S n) := by
  have h1 := (FP.Core.ne_nan _).mp (dmB_nan (S := S) h)
  unfold vf_n64
  rw [UInt64.le_iff_toNat_le, UInt64.toNat_and]
  rw [show (9223372036854775807 : UInt64).toNat = 2 ^ 63 - 1 from rfl, Nat.and_two_pow_sub_one_eq_mod]
  exact h1
theorem dmB_cmp {S n : Int} (h : 1 ≤ n ∧ n ≤ 10) : Op.cmpValue (FP.dcmp (dmB S n) (dmB S n)) CmpOp.l = zi 0 := by
  show Op.cmpValue (FP.Core.dcmp (dmB S n) (dmB S n)) CmpOp.l = zi 0
  rw [FP.Core.dcmp_self (dmB_nan h)]
  rfl
def sumN (σ : St) : Nat → Int
  | 0 => 0
  | k + 1 => sumN σ k + σ 19 ((k : Int) / 100) ((k : Int) % 100)
theorem sumN_s (σ : St) {i j : Int} (hi : 0 ≤ i) (hj : 0 ≤ j ∧ j < 100) : sumN σ (100 * i + j + 1).toNat = sumN σ (100 * i + j).toNat + σ 19 i j := by
  rw [show (100 * i + j + 1).toNat = (100 * i + j).toNat + 1 by omega, sumN, show (((100 * i + j).toNat : Nat) : Int) / 100 = i by omega, show (((100 * i + j).toNat : Nat) : Int) % 100 = j by omega]
theorem sumN_k (σ : St) {k : Int} (hk : 0 ≤ k) : sumN σ (k + 1).toNat = sumN σ k.toNat + σ 19 (k / 100) (k % 100) := by
  rw [show (k + 1).toNat = k.toNat + 1 by omega, sumN, Int.toNat_of_nonneg hk]
theorem sumN_T {σ σ' : St} (h : σ' 19 = σ 19) : ∀ n : Nat, sumN σ' n = sumN σ n
  | 0 => rfl
  | n + 1 => by rw [sumN, sumN, sumN_T h n, h]
/-- devices that are held -/
theorem cN_not (f g : Int → Bool) (h : ∀ d : Int, g d = !f d) : ∀ n : Nat, cntB g n = n - cntB f n
  | 0 => rfl
  | n + 1 => by
    rw [cntB, cntB, cN_not f g h n, h]
    cases f n <;> simp <;> omega
theorem held_not (σ : St) : cN (fun d => decide (σ 18 d 0 ≠ -1)) 6 = 6 - held σ (-1) := by
  unfold held
  exact cN_not (fun d => decide (σ 18 d 0 = -1)) _ (fun d => by simp) 6
end FLOATS
section FLOROWS
variable {p : Program} {l : Launch} {e : Env} {R : Room} {s : State} {m : MethodId} {args : Array Value} {below : List Frame} {meth : Method} {c : Code} {H : Heap} {locs : List Loc} {cells slots : Nat} {Q : State → Prop} {cc bytes : ByteArray} {pc index maxL n : Nat} {ls : Array Slot} {rest st0 : List Value} {own C : String} {Ts ws : List Cond} {Dg : va_G} {cA : Nat → ClassId} {cnt : Nat → Int} {ad : Nat → Int → Nat} {oc : Nat → Nat} {A : Nat → Prop} {E E' : Nat → Int → va_E} {nL : Nat} {ret0 : Option FieldType} {y : MethodName} {rm : Room} {b : Nat} {As : List Value}
abbrev GF (l : Launch) (y : MethodName) (ws : List Cond) (rm : Room) (Dg : va_G) (cA : Nat → ClassId) (cnt : Nat → Int) (ad : Nat → Int → Nat) (oc : Nat → Nat) (E : Nat → Int → va_E) (As : List Value) (v : UInt32) (E' : Nat → Int → va_E) : Prop :=
  ∀ sz : Nat, Met l y ws rm (gPre Dg cA cnt ad oc E As sz) (va_Qf (fun (r : UInt32) (_ : Unit) => r = v) (gB Dg cnt ad E') (WA cnt ad sz)) 0 0 (WA cnt ad sz)
abbrev GD (l : Launch) (y : MethodName) (ws : List Cond) (rm : Room) (Dg : va_G) (cA : Nat → ClassId) (cnt : Nat → Int) (ad : Nat → Int → Nat) (oc : Nat → Nat) (E : Nat → Int → va_E) (As : List Value) (v : UInt64) (E' : Nat → Int → va_E) : Prop :=
  ∀ sz : Nat, Met l y ws rm (gPre Dg cA cnt ad oc E As sz) (va_Qd (fun (r : UInt64) (_ : Unit) => r = v) (gB Dg cnt ad E') (WA cnt ad sz)) 0 0 (WA cnt ad sz)
theorem k_callF {v : UInt32} (hX : KX p c cc s m meth args own Ts Dg cA cnt ad oc A nL ret0) (hls : ls.size = nL) (hM : GF l y ws rm Dg cA cnt ad oc E (.ref b :: As) v E') (cw : CallW R s args own C index y bytes maxL (some .float) ws rm 0 0 n) (hr : ∃ cell : Cell, H[b]? = some cell ∧ cell.vm.isStatics = false ∧ s.vm.findClass C = some cell.cls) (hW : WP Dg cnt ad E H) (hS : va_S A s.heap H locs) (hf : cells ≤ R.cells ∧ slots ≤ R.slots) (hst : st0 = As.reverse ++ .ref b :: rest) (hn : As.length = n) (hcat : (rest.map fun v => v.category).sum ≤ 8) (hdg : decode cc pc = .ok (.invokevirtual index, 3))
    (kk : ∀ (H1 : Heap) (locs1 : List Loc), WP Dg cnt ad E' H1 → va_S A s.heap H1 locs1 → H.size ≤ H1.size → (∀ q : Nat, q < H.size → ¬ WA cnt ad H.size q → H1[q]? = H[q]?) → W p l e R s m args below meth c H1 locs1 cells slots Q (F0 m (pc + 3) ls (.float v :: rest))) : W p l e R s m args below meth c H locs cells slots Q (F0 m pc ls st0) := by
  have hA1 := wa_sub (H0 := H) hX.1.2.2.2.2.2.2 hX.2.2.2.2.2 hS
  refine va_callf (va_runV (As := As) (rest := rest) ⟨hX.1.1, hX.1.2.1, hX.2.1, hX.1.2.2.1, hX.1.2.2.2.1⟩ (hM H.size) cw ⟨gPre_blind, hr, fun U hU hWm => pre_of hX hW hS U hU hWm⟩ rfl hn hls hst (lv_room hcat) hdg hf) hS (fun q _ h => hA1 q h) hA1 (fun r u t H1 locs1 ht _ hp hB hz hk hS1 => ?_)
  have hB : WP Dg cnt ad E' t.heap := hB
  rw [ht] at hB
  have hp : r = v := hp
  subst hp
  exact kk H1 locs1 hB hS1 hz hk
theorem k_fret {v w : UInt32} (hX : KX p c cc s m meth args own Ts Dg cA cnt ad oc A nL (some .float)) (hv : v = w) (hW : WP Dg cnt ad E H) (hS : va_S A s.heap H locs) (hdg : decode cc pc = .ok (.freturn, 1)) :
    W p l e R s m args below meth c H locs 0 0 (MQ below (va_Qf (fun (r : UInt32) (_ : Unit) => r = w) (gB Dg cnt ad E) A) args s 0 0 A) (F0 m pc ls [.float v]) :=
  W.fret hX.1.1 hX.1.2.1 hX.2.2.1 (fun t ht _ => ⟨⟨_, (), rfl, hv, by show WP Dg cnt ad E t.heap; rw [ht]; exact hW⟩, hS.F ht⟩) hS.2.2 hdg hX.2.2.2.1
theorem k_dret {v w : UInt64} (hX : KX p c cc s m meth args own Ts Dg cA cnt ad oc A nL (some .double)) (hv : v = w) (hW : WP Dg cnt ad E H) (hS : va_S A s.heap H locs) (hdg : decode cc pc = .ok (.dreturn, 1)) :
    W p l e R s m args below meth c H locs 0 0 (MQ below (va_Qd (fun (r : UInt64) (_ : Unit) => r = w) (gB Dg cnt ad E) A) args s 0 0 A) (F0 m pc ls [.double v]) :=
  W.dret hX.1.1 hX.1.2.1 hX.2.2.1 (fun t ht _ => ⟨⟨_, (), rfl, hv, by show WP Dg cnt ad E t.heap; rw [ht]; exact hW⟩, hS.F ht⟩) hS.2.2 hdg hX.2.2.2.1
theorem k_fconst0 (hC : CX p c cc s m args own Ts Dg cA cnt ad A) (hdg : decode cc pc = .ok (.fconst 0, 1)) (kk : W p l e R s m args below meth c H locs cells slots Q (F0 m (pc + 1) ls (.float 0 :: rest))) : W p l e R s m args below meth c H locs cells slots Q (F0 m pc ls rest) := lv_fconst0 hC.1 hC.2.1 hdg kk
theorem k_fconst1 (hC : CX p c cc s m args own Ts Dg cA cnt ad A) (hdg : decode cc pc = .ok (.fconst 1, 1)) (kk : W p l e R s m args below meth c H locs cells slots Q (F0 m (pc + 1) ls (.float 1065353216 :: rest))) : W p l e R s m args below meth c H locs cells slots Q (F0 m pc ls rest) := lv_fconst1 hC.1 hC.2.1 hdg kk
theorem k_fconst2 (hC : CX p c cc s m args own Ts Dg cA cnt ad A) (hdg : decode cc pc = .ok (.fconst 2, 1)) (kk : W p l e R s m args below meth c H locs cells slots Q (F0 m (pc + 1) ls (.float 1073741824 :: rest))) : W p l e R s m args below meth c H locs cells slots Q (F0 m pc ls rest) := lv_fconst2 hC.1 hC.2.1 hdg kk
theorem k_fcmp (hC : CX p c cc s m args own Ts Dg cA cnt ad A) {x y : UInt32} {op : CmpOp} {v : Int} (hdg : decode cc pc = .ok (.fcmp op, 1)) (hv : Op.cmpValue (FP.fcmp x y) op = zi v) (kk : W p l e R s m args below meth c H locs cells slots Q (F0 m (pc + 1) ls (.int (zi v) :: rest))) : W p l e R s m args below meth c H locs cells slots Q (F0 m pc ls (.float y :: .float x :: rest)) := lv_fcmp hC.1 hC.2.1 hdg (by rw [hv]; exact kk)
theorem k_fmul (hC : CX p c cc s m args own Ts Dg cA cnt ad A) {x y z : UInt32} (hdg : decode cc pc = .ok (.fmul, 1)) (hv : FP.fmul x y = z) (hn : z &&& 0x7fffffff ≤ 0x7f800000) (kk : W p l e R s m args below meth c H locs cells slots Q (F0 m (pc + 1) ls (.float z :: rest))) : W p l e R s m args below meth c H locs cells slots Q (F0 m pc ls (.float y :: .float x :: rest)) := lv_fmul hC.1 hC.2.1 hdg (by rw [hv]; exact hn) (by rw [hv]; exact kk)
theorem k_fsub (hC : CX p c cc s m args own Ts Dg cA cnt ad A) {x y z : UInt32} (hdg : decode cc pc = .ok (.fsub, 1)) (hv : FP.fsub x y = z) (hn : z &&& 0x7fffffff ≤ 0x7f800000) (kk : W p l e R s m args below meth c H locs cells slots Q (F0 m (pc + 1) ls (.float z :: rest))) : W p l e R s m args below meth c H locs cells slots Q (F0 m pc ls (.float y :: .float x :: rest)) := lv_fsub hC.1 hC.2.1 hdg (by rw [hv]; exact hn) (by rw [hv]; exact kk)
theorem k_fdiv6 (hC : CX p c cc s m args own Ts Dg cA cnt ad A) {k : Int} (hdg : decode cc pc = .ok (.fdiv, 1)) (hk : 0 ≤ k ∧ k ≤ 6) (kk : W p l e R s m args below meth c H locs cells slots Q (F0 m (pc + 1) ls (.float (hsB k) :: rest))) : W p l e R s m args below meth c H locs cells slots Q (F0 m pc ls (.float 1086324736 :: .float (FP.i2f (zi k)) :: rest)) := lv_fdiv hC.1 hC.2.1 hdg (by rw [hsB_div hk]; exact hsB_n hk) (by rw [hsB_div hk]; exact kk)
theorem k_f2i (hC : CX p c cc s m args own Ts Dg cA cnt ad A) {x : UInt32} {v : Int} (hdg : decode cc pc = .ok (.f2i, 1)) (hv : FP.f2i x = zi v) (kk : W p l e R s m args below meth c H locs cells slots Q (F0 m (pc + 1) ls (.int (zi v) :: rest))) : W p l e R s m args below meth c H locs cells slots Q (F0 m pc ls (.float x :: rest)) := lv_f2i hC.1 hC.2.1 hdg (by rw [hv]; exact kk)
theorem k_ishl (hC : CX p c cc s m args own Ts Dg cA cnt ad A) {a b v : Int} (hdg : decode cc pc = .ok (.ishl, 1)) (hv : zi a <<< (zi b &&& 31) = zi v) (kk : W p l e R s m args below meth c H locs cells slots Q (F0 m (pc + 1) ls (.int (zi v) :: rest))) : W p l e R s m args below meth c H locs cells slots Q (F0 m pc ls (.int (zi b) :: .int (zi a) :: rest)) := lv_ishl hC.1 hC.2.1 hdg (by rw [hv]; exact kk)
theorem k_ior (hC : CX p c cc s m args own Ts Dg cA cnt ad A) {a b v : Int} (hdg : decode cc pc = .ok (.ior, 1)) (hv : zi a ||| zi b = zi v) (kk : W p l e R s m args below meth c H locs cells slots Q (F0 m (pc + 1) ls (.int (zi v) :: rest))) : W p l e R s m args below meth c H locs cells slots Q (F0 m pc ls (.int (zi b) :: .int (zi a) :: rest)) := lv_ior hC.1 hC.2.1 hdg (by rw [hv]; exact kk)
theorem k_ddivM (hC : CX p c cc s m args own Ts Dg cA cnt ad A) {S k : Int} (hdg : decode cc pc = .ok (.ddiv, 1)) (hk : 1 ≤ k ∧ k ≤ 10) (kk : W p l e R s m args below meth c H locs cells slots Q (F0 m (pc + 1) ls (.double (dmB S k) :: rest))) : W p l e R s m args below meth c H locs cells slots Q (F0 m pc ls (.double (FP.i2d (zi k)) :: .double (FP.l2d (zl S)) :: rest)) := lv_ddiv hC.1 hC.2.1 hdg (dmB_n hk) kk
theorem va_ldcwF {T : State} (X : Stand p l e R s m args below meth c T locs cells slots) (hexec : p.tables.exec = Jvm.exec) {own : String} {index : Nat} {v : UInt32} (hown : s.vm.findClass own = some m.cls)
    (hconst : (Cond.constantFloat own index v).before args s = true) {g : JFrame} (hg : g.method = m) (hdg : decode c.code g.pc = .ok (.ldc_w index, 3)) :
    ∀ target, Steps p.tables e below (T.setTop { g with pc := g.pc + 3, stack := .float v :: g.stack }) target → Steps p.tables e below (T.setTop g) target := by
  obtain ⟨k, cf, hk, hcf, hcp⟩ := Cond.constantFloat_spec hown hconst
  obtain ⟨k', hk', he⟩ := X.warmed.alike.2.2 _ _ hk
  intro target hrest
  subst hg
  jvm_step X.here [hexec, hdg, ldc_w.wp_float (s := T) (f := g) X.here.top hk' (by rw [he]; exact hcf) hcp]
  exact hrest
theorem lv_ldcwf (hexec : p.tables.exec = Jvm.exec) (hb : c.code = cc) {own : String} {index : Nat} {v : UInt32} (hown : s.vm.findClass own = some m.cls) (hconst : (Jvm.Cond.constantFloat own index v).before args s = true) (hdg : decode cc pc = .ok (.ldc_w index, 3)) (k : W p l e R s m args below meth c H locs cells slots Q (F0 m (pc + 3) ls (.float v :: rest))) : W p l e R s m args below meth c H locs cells slots Q (F0 m pc ls rest) := by
  intro T hT X
  obtain ⟨t, a, b⟩ := k T hT X
  exact ⟨t, va_ldcwF X hexec hown hconst (g := F0 m pc ls rest) rfl (by rw [hb]; exact hdg) t a, b⟩
theorem g_entF {ws' : List Cond} {ret : Option FieldType} {Qc : Array Value → State → Outcome → State → Prop} {sz : Nat} (hy : plainFor y = true) (hw : ws = Cond.code y cc maxL ret :: ws') (hI : WI cnt ad) (hlen : (lg_sl As).length ≤ maxL)
    (body : ∀ (p : Program) (e : Env) (s : State) (m : MethodId) (below : List Frame) (meth : Method) (c : Code), KX p c cc s m meth As.toArray y.cls ws Dg cA cnt ad oc (WA cnt ad s.heap.size) maxL ret → WP Dg cnt ad E s.heap → va_S (WA cnt ad s.heap.size) s.heap s.heap [] → s.heap.size = sz → ∀ ls : Array Slot, lv_has ls maxL (lv_args 0 As) → W p l e (headSpec ws rm).room s m As.toArray below meth c s.heap [] 0 0 (MQ below Qc As.toArray s 0 0 (WA cnt ad s.heap.size)) (F0 m 0 ls [])) :
    Met l y ws rm (gPre Dg cA cnt ad oc E As sz) Qc 0 0 (WA cnt ad sz) := by
  refine va_MetF (cc := cc) (maxL := maxL) (ret := ret) hy hw ?_
  intro p e s m args below meth c s₁ B hml hv
  obtain ⟨rfl, hsz, hW, hK, hE⟩ := hv
  have hts := atoms_spec (ws := ws) B.pre
  have hl := lv_entry As (n := maxL) hlen
  subst hsz
  rw [lg_entry_eq]
  exact body p e s m below meth c ⟨⟨B.exec, B.bytes, findClass_of_methodNamed B.named, hts, hK, hI, fun t i h0 h1 => Or.inl ⟨t, i, h0, h1, rfl⟩⟩, hml, B.returns, B.notSynchronized, hE, fun q h => Or.inr h⟩ hW va_S.rf rfl _ hl
end FLOROWS
