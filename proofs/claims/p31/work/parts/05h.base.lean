section BASE4
variable {p : Program} {l : Launch} {e : Env} {R : Room} {s : State} {m : MethodId} {args : Array Value} {below : List Frame} {meth : Method} {c : Code} {H : Heap} {locs : List Loc} {cells slots : Nat} {Q : State → Prop} {cc : ByteArray} {pc : Nat} {ls : Array Slot} {rest : List Value} {own : String} {Ts : List Cond} {Dg : va_G} {cA : Nat → ClassId} {cnt : Nat → Int} {ad : Nat → Int → Nat} {oc : Nat → Nat} {A : Nat → Prop} {E : Nat → Int → va_E} {nL : Nat} {ret0 : Option FieldType}
theorem k_lookup (hC : CX p c cc s m args own Ts Dg cA cnt ad A) {a dflt off : Int} {ps : List (Int × Int)} {len tgt : Nat} (hdg : decode cc pc = .ok (.lookupswitch dflt ps.toArray, len)) (ha : -2147483648 ≤ a ∧ a < 2147483648) (hp : (ps.zip (ps.drop 1)).all (fun (a, next) => a.1 < next.1) = true) (ho : Op.lookupswitch.offset ps dflt a = off) (ht : (pc : Int) + off = (tgt : Int))
    (kk : W p l e R s m args below meth c H locs cells slots Q (F0 m tgt ls rest)) : W p l e R s m args below meth c H locs cells slots Q (F0 m pc ls (.int (zi a) :: rest)) :=
  lv_lookup (ps := ps.toArray) hC.1 hC.2.1 hdg hp (by rw [zi_int ha]; exact ho) ht kk
theorem k_tabOut (hC : CX p c cc s m args own Ts Dg cA cnt ad A) {a dflt lo hi : Int} {offs : Array Int} {len tgt : Nat} (hdg : decode cc pc = .ok (.tableswitch dflt lo hi offs, len)) (ha : -2147483648 ≤ a ∧ a < 2147483648) (h : a < lo ∨ hi < a) (ht : (pc : Int) + dflt = (tgt : Int))
    (kk : W p l e R s m args below meth c H locs cells slots Q (F0 m tgt ls rest)) : W p l e R s m args below meth c H locs cells slots Q (F0 m pc ls (.int (zi a) :: rest)) :=
  lv_tableOut hC.1 hC.2.1 hdg (by rw [zi_int ha]; exact h) ht kk
theorem k_tabIn (hC : CX p c cc s m args own Ts Dg cA cnt ad A) {a a' dflt lo hi off : Int} {offs : Array Int} {len tgt : Nat} (hdg : decode cc pc = .ok (.tableswitch dflt lo hi offs, len)) (he : a = a') (ha : -2147483648 ≤ a' ∧ a' < 2147483648) (h1 : ¬ a' < lo) (h2 : ¬ hi < a') (ho : offs[(a' - lo).toNat]? = some off) (ht : (pc : Int) + off = (tgt : Int))
    (kk : W p l e R s m args below meth c H locs cells slots Q (F0 m tgt ls rest)) : W p l e R s m args below meth c H locs cells slots Q (F0 m pc ls (.int (zi a) :: rest)) := by
  subst he
  exact lv_tableIn hC.1 hC.2.1 hdg (by rw [zi_int ha]; exact h1) (by rw [zi_int ha]; exact h2) (by rw [zi_int ha]; exact ho) ht kk
theorem k_aret2 {rt : FieldType} {o o' : Nat} (hX : KX p c cc s m meth args own Ts Dg cA cnt ad oc A nL (some rt)) (ho : o = o') (hW : WP Dg cnt ad E H) (hS : va_S A s.heap H locs) (hdg : decode cc pc = .ok (.areturn, 1)) (hrt : ∃ C, rt = .object C) :
    W p l e R s m args below meth c H locs 0 0 (MQ below (va_Qr (fun _ : Unit => True) (fun (_ : Unit) (a : Nat) (t : State) => a = oc o' ∧ WP Dg cnt ad E t.heap) A) args s 0 0 A) (F0 m pc ls [.ref (oc o)]) := by
  subst ho
  exact k_aret hX hW hS hdg hrt
theorem oc_ne (hX : KX p c cc s m meth args own Ts Dg cA cnt ad oc A nL ret0) {a b : Nat} (ha : a ≤ 2) (hb : b ≤ 2) (h : a ≠ b) : oc a ≠ oc b := by
  obtain ⟨d1, d2, d3⟩ := hX.2.2.2.2.1.2.2.2.1
  have c1 : a = 0 ∨ a = 1 ∨ a = 2 := by omega
  have c2 : b = 0 ∨ b = 1 ∨ b = 2 := by omega
  rcases c1 with rfl | rfl | rfl <;> rcases c2 with rfl | rfl | rfl <;> first | exact absurd rfl h | assumption | exact Ne.symm (by assumption)
def mostN (k : Int) : Int := if k = 115 then 99 else if k = 119 then 20 else if k = 100 ∨ k = 102 then 5 else if k = 103 ∨ k = 118 ∨ k = 108 then 20 else if k = 99 then 99 else if k = 112 then 7 else -1
def leastN (k : Int) : Int := if k = 119 then 1 else 0
theorem okL_of {k n : Int} (h1 : mostN k ≠ -1) (h2 : leastN k ≤ n) (h3 : n ≤ mostN k) : okL k n := by
  unfold okL
  unfold mostN at h1 h3
  unfold leastN at h2
  omega
theorem mostN_rng (k : Int) : -1 ≤ mostN k ∧ mostN k ≤ 99 := by unfold mostN; omega
theorem leastN_rng (k : Int) : 0 ≤ leastN k ∧ leastN k ≤ 1 := by unfold leastN; omega
end BASE4
