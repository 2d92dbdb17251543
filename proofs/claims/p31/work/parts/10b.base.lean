section BASE5
variable {p : Program} {l : Launch} {e : Env} {R : Room} {s : State} {m : MethodId} {args : Array Value} {below : List Frame} {meth : Method} {c : Code} {H : Heap} {locs : List Loc} {cells slots : Nat} {Q : State → Prop} {cc : ByteArray} {pc : Nat} {ls : Array Slot} {rest : List Value} {own : String} {Ts : List Cond} {Dg : va_G} {cA : Nat → ClassId} {cnt : Nat → Int} {ad : Nat → Int → Nat} {A : Nat → Prop}
theorem k_top0 {a b : Int} (h : a = b) (kk : W p l e R s m args below meth c H locs cells slots Q (F0 m pc ls (.int (zi b) :: rest))) : W p l e R s m args below meth c H locs cells slots Q (F0 m pc ls (.int (zi a) :: rest)) := by rw [h]; exact kk
theorem k_top1 {a b : Int} {x : Value} (h : a = b) (kk : W p l e R s m args below meth c H locs cells slots Q (F0 m pc ls (x :: .int (zi b) :: rest))) : W p l e R s m args below meth c H locs cells slots Q (F0 m pc ls (x :: .int (zi a) :: rest)) := by rw [h]; exact kk
theorem k_top2 {a b : Int} {x y : Value} (h : a = b) (kk : W p l e R s m args below meth c H locs cells slots Q (F0 m pc ls (x :: y :: .int (zi b) :: rest))) : W p l e R s m args below meth c H locs cells slots Q (F0 m pc ls (x :: y :: .int (zi a) :: rest)) := by rw [h]; exact kk
theorem zi_c {a : Int} (h : 0 ≤ a ∧ a < 65536) : ((zi a).toUInt32 % 65536).toInt32 = zi a := by
  rw [zi_nI h.1, pk_char, show (nI a.toNat).toBitVec.toNat % 65536 = a.toNat from ?_]
  have h1 : (nI a.toNat).toBitVec.toNat = a.toNat := by
    show (BitVec.ofNat 32 a.toNat).toNat = a.toNat
    rw [BitVec.toNat_ofNat]
    omega
  rw [h1]
  omega
theorem k_i2c (hC : CX p c cc s m args own Ts Dg cA cnt ad A) {a : Int} (hdg : decode cc pc = .ok (.i2c, 1)) (h : 0 ≤ a ∧ a < 65536) (kk : W p l e R s m args below meth c H locs cells slots Q (F0 m (pc + 1) ls (.int (zi a) :: rest))) : W p l e R s m args below meth c H locs cells slots Q (F0 m pc ls (.int (zi a) :: rest)) :=
  lv_i2c hC.1 hC.2.1 hdg (zi_c h) kk
end BASE5
section PILE
theorem popN_more : ∀ (k : Nat) {σ : St} {p : Int}, σ 5 p 0 ≤ (k : Int) + 1 → popN (k + 1) σ p = popN k σ p
  | 0, σ, p, h => by rw [popN_stop 1 (fun z => by have := z.1; omega)]; rfl
  | k + 1, σ, p, h => by
    by_cases c : 1 < σ 5 p 0 ∧ atEnd σ p
    · rw [popN_go _ c, popN_go _ c]
      exact popN_more k (by rw [pop1_h]; omega)
    · rw [popN_stop _ c, popN_stop _ c]
theorem fPop_pop {σ : St} {p : Int} (h4 : σ 5 p 0 ≤ 4) (c : 1 < σ 5 p 0 ∧ atEnd σ p) : fPop (pop1 σ p) p = fPop σ p := by
  unfold fPop
  rw [popN_go 2 c]
  exact popN_more 2 (by rw [pop1_h]; omega)
theorem fHead_pop {σ : St} {p : Int} (h4 : σ 5 p 0 ≤ 4) (c : 1 < σ 5 p 0 ∧ atEnd σ p) : fHead (pop1 σ p) p = fHead σ p := by
  unfold fHead
  rw [fPop_pop h4 c]
theorem fHead_stop {σ : St} {p : Int} (c : ¬ (1 < σ 5 p 0 ∧ atEnd σ p)) : fHead σ p = ups σ 29 0 0 (σ 29 0 0 + 1) := by
  unfold fHead fPop
  rw [popN_stop 3 c]
theorem fLines_pop {σ : St} {p : Int} (h4 : σ 5 p 0 ≤ 4) (c : 1 < σ 5 p 0 ∧ atEnd σ p) (n : Nat) : fLines (n + 1) (pop1 σ p) p = fLines (n + 1) σ p := by
  have e1 : fLine (pop1 σ p) p = fLine σ p := by unfold fLine; rw [fHead_pop h4 c]
  have e2 : oLine (pop1 σ p) p = oLine σ p := by unfold oLine; rw [fHead_pop h4 c]
  rw [fLines, fLines, e1, e2]
end PILE
section FLOROWS
variable {p : Program} {l : Launch} {e : Env} {R : Room} {s : State} {m : MethodId} {args : Array Value} {below : List Frame} {meth : Method} {c : Code} {H : Heap} {locs : List Loc} {cells slots : Nat} {Q : State → Prop} {cc bytes : ByteArray} {pc index maxL n : Nat} {ls : Array Slot} {rest st0 : List Value} {own C : String} {Ts ws : List Cond} {Dg : va_G} {cA : Nat → ClassId} {cnt : Nat → Int} {ad : Nat → Int → Nat} {oc : Nat → Nat} {A : Nat → Prop} {E E' : Nat → Int → va_E} {nL : Nat} {ret0 : Option FieldType} {y : MethodName} {rm : Room} {b : Nat} {As : List Value}
abbrev GF (l : Launch) (y : MethodName) (ws : List Cond) (rm : Room) (Dg : va_G) (cA : Nat → ClassId) (cnt : Nat → Int) (ad : Nat → Int → Nat) (oc : Nat → Nat) (E : Nat → Int → va_E) (As : List Value) (v : UInt32) (E' : Nat → Int → va_E) : Prop :=
  ∀ sz : Nat, Met l y ws rm (gPre Dg cA cnt ad oc E As sz) (va_Qf (fun (r : UInt32) (_ : Unit) => r = v) (gB Dg cnt ad E') (WA cnt ad sz)) 0 0 (WA cnt ad sz)
abbrev GD (l : Launch) (y : MethodName) (ws : List Cond) (rm : Room) (Dg : va_G) (cA : Nat → ClassId) (cnt : Nat → Int) (ad : Nat → Int → Nat) (oc : Nat → Nat) (E : Nat → Int → va_E) (As : List Value) (v : UInt64) (E' : Nat → Int → va_E) : Prop :=
  ∀ sz : Nat, Met l y ws rm (gPre Dg cA cnt ad oc E As sz) (va_Qd (fun (r : UInt64) (_ : Unit) => r = v) (gB Dg cnt ad E') (WA cnt ad sz)) 0 0 (WA cnt ad sz)
theorem k_fret {v w : UInt32} (hX : KX p c cc s m meth args own Ts Dg cA cnt ad oc A nL (some .float)) (hv : v = w) (hW : WP Dg cnt ad E H) (hS : va_S A s.heap H locs) (hdg : decode cc pc = .ok (.freturn, 1)) :
    W p l e R s m args below meth c H locs 0 0 (MQ below (va_Qf (fun (r : UInt32) (_ : Unit) => r = w) (gB Dg cnt ad E) A) args s 0 0 A) (F0 m pc ls [.float v]) :=
  W.fret hX.1.1 hX.1.2.1 hX.2.2.1 (fun t ht _ => ⟨⟨_, (), rfl, hv, by show WP Dg cnt ad E t.heap; rw [ht]; exact hW⟩, hS.F ht⟩) hS.2.2 hdg hX.2.2.2.1
theorem k_dret {v w : UInt64} (hX : KX p c cc s m meth args own Ts Dg cA cnt ad oc A nL (some .double)) (hv : v = w) (hW : WP Dg cnt ad E H) (hS : va_S A s.heap H locs) (hdg : decode cc pc = .ok (.dreturn, 1)) :
    W p l e R s m args below meth c H locs 0 0 (MQ below (va_Qd (fun (r : UInt64) (_ : Unit) => r = w) (gB Dg cnt ad E) A) args s 0 0 A) (F0 m pc ls [.double v]) :=
  W.dret hX.1.1 hX.1.2.1 hX.2.2.1 (fun t ht _ => ⟨⟨_, (), rfl, hv, by show WP Dg cnt ad E t.heap; rw [ht]; exact hW⟩, hS.F ht⟩) hS.2.2 hdg hX.2.2.2.1
end FLOROWS
