section L31D
variable {p : Program} {l : Launch} {e : Env} {R : Room} {s : State} {m : MethodId} {args : Array Value} {below : List Frame} {meth : Method} {c : Code} {H : Heap} {locs : List Loc} {cells slots : Nat} {Q : State → Prop} {cc bytes : ByteArray} {pc : Nat} {ls : Array Slot} {rest : List Value} {own C : String} {Ts ws : List Cond} {Dg : va_G} {cA : Nat → ClassId} {ad1 : Nat → Int → Nat} {oc : Nat → Nat} {b L a av : Nat} {xs : Nat → Int32} {nL N ci : Nat} {T : u_T} {ret0 : Option FieldType} {y : MethodName} {rm : Room} {E1 : Nat → Int → va_E}
/-- new, dup, the constructor -/
theorem l_make {hb n mc ms ik ic maxL : Nat} {f : Nat → va_E} {fs : List Value} (hX0 : KX p c cc s m meth args own Ts Dg cA (fun _ => 0) (fun _ _ => 0) oc (NA s.heap.size) nL ret0) (hAOW : AOW s) (hin : ∀ w ∈ u_ws C T N, w ∈ Ts) (ty : Nat → FieldType) (hty : ∀ k, k < N → parseFieldDescriptor (T k).2.2.1 = some (ty k)) (hcl : (Cond.classLink own ik C).before args s = true) (hinst : (Cond.instantiable C N).before args s = true) (hini : (Cond.initialized C).before args s = true) (hc : vwCl[ci]? = some (C, T, N)) (hfs : ∀ j, j < N → defaultValue (ty j) = vp_V fs j) (hM : GN l y ws rm Dg cA hb ci fs n f mc ms) (cw : CallB R s args own ic y bytes maxL none ws rm mc ms 0 ∧ y.name = "<init>" ∧ (Cond.instanceMethod y).before args s = true) (hH : H.size = hb) (hb0 : s.heap.size ≤ hb) (hS : va_S (NA s.heap.size) s.heap H locs) (hls : ls.size = nL) (hcells : cells + 1 + mc ≤ R.cells) (hslots : slots + N + ms ≤ R.slots) (hcat : ((Value.ref hb :: rest).map fun v => v.category).sum ≤ 8) (d0 : decode cc pc = .ok (.new ik, 3)) (d3 : decode cc (pc + 3) = .ok (.dup, 1)) (d4 : decode cc (pc + 3 + 1) = .ok (.invokespecial ic, 3))
    (kk : ∀ (H2 : Heap) (locs2 : List Loc), HS Dg hb n f H2 → (∀ q : Nat, q < hb → H2[q]? = H[q]?) → va_S (NA s.heap.size) s.heap H2 locs2 → W p l e R s m args below meth c H2 locs2 (cells + 1 + mc) (slots + N + ms) Q (F0 m (pc + 3 + 1 + 3) ls (.ref hb :: rest))) : W p l e R s m args below meth c H locs cells slots Q (F0 m pc ls rest) := by
  have hx := hX0.1.1
  have hb9 := hX0.1.2.1
  have hown := hX0.1.2.2.1
  have hts := hX0.1.2.2.2.1
  have hK := hX0.1.2.2.2.2.1
  have hKn := hK.1 ci _ hc
  refine W.newcK hx hb9 hown hcl hinst hini rfl d0 (by omega) (by omega) hKn.2.1 hH fun H1 kC hkC e1 z1 o1 => ?_
  have z2 : H1.size = H.size + 1 := by rw [z1, hH]
  have o2 : ∀ q : Nat, q < H.size → H1[q]? = H[q]? := fun q hq => o1 q (by rw [← hH]; exact hq)
  have hS1 := hS.push z2 o2
  have hH1 : HS Dg hb 1 (fun _ => .inr (ci, fs)) H1 := ⟨z1, fun k hk => by
    have hk0 : k = 0 := by omega
    subst hk0
    exact ⟨_, hc, (u_born ty hts hin hKn hkC e1 hty).to hfs⟩⟩
  refine lv_dup hx hb9 d3 rfl ?_
  have hA1 : ∀ q : Nat, NA hb q → NA s.heap.size q := fun q h => Nat.le_trans hb0 h
  refine va_callv (va_runI (As := []) (rest := .ref hb :: rest) ⟨hx, hb9, hX0.2.1, hown, hts⟩ hM cw ⟨fun a U g mk q => by obtain ⟨q0, q1, q2, q3⟩ := q; exact ⟨q0, q1, va_K.moved (u := U) (U := U.calling g mk a) (Vm.Alike.refl U.vm) q2, AOW.same (u := U) (U := U.calling g mk a) rfl q3⟩, fun U hU hWm => ⟨rfl, by rw [hU]; exact hH1, va_K.moved hWm.alike hK, AOW.warm hWm hAOW⟩⟩ rfl rfl hls rfl (lv_room hcat) d4 ⟨hcells, hslots⟩) hS1 (fun q _ h => hA1 q h) hA1 (fun u t H2 locs2 ht _ _ hB hz hk hS2 => ?_)
  have hB : HS Dg hb n f t.heap := hB
  rw [ht] at hB
  exact kk H2 locs2 hB (fun q hq => (hk q (by rw [z1]; omega) (fun z => by have z : hb ≤ q := z; omega)).trans (o1 q hq)) hS2
/-- a new array of ints -/
theorem l_arr {M : Nat} (hX0 : KX p c cc s m meth args own Ts Dg cA (fun _ => 0) (fun _ _ => 0) oc (NA s.heap.size) nL ret0) (harr : (Cond.arrayClass .int).before args s = true) (hM : 0 < M ∧ M ≤ 100000) (hS : va_S (NA s.heap.size) s.heap H locs) (hcells : cells + 1 ≤ R.cells) (hslots : slots + M ≤ R.slots) (hdg : decode cc pc = .ok (.newarray .int, 2))
    (kk : ∀ H1 : Heap, H1.size = H.size + 1 → va_at Dg vwCl (H.size, .inl (cA 1, M, .inl (fun _ => zi 0))) H1 → (∀ q : Nat, q < H.size → H1[q]? = H[q]?) → va_S (NA s.heap.size) s.heap H1 locs → W p l e R s m args below meth c H1 locs (cells + 1) (slots + M) Q (F0 m (pc + 2) ls (.ref H.size :: rest))) : W p l e R s m args below meth c H locs cells slots Q (F0 m pc ls (.int (zi (M : Int)) :: rest)) := by
  have hK := hX0.1.2.2.2.2.1
  have hcl : (zi (M : Int)).toNatClampNeg = M := by rw [zi_cl (by omega) (by omega)]; omega
  have hpos : ¬ zi (M : Int) < 0 := by rw [z0, zi_lt ⟨by omega, by omega⟩ sm0]; omega
  have hcb : M * componentBytes .int ≤ 536870912 := Nat.le_trans (Nat.mul_le_mul hM.2 (show componentBytes .int ≤ 8 by decide)) (by decide)
  refine va_newaK (atype := .int) hX0.1.1 hX0.1.2.1 harr rfl hdg rfl hpos hcl hcb hcells hslots rfl fun H1 cA9 e1 z1 o1 hAr hNm => ?_
  have hid : cA9 = cA 1 := by
    have q : s.vm.findClass ("[" ++ (newarray.typeOf .int).toString) = some (cA 1) := (hK.2 1 (cA 1, .int) rfl).2
    exact Option.some.inj (hNm.symm.trans q)
  subst hid
  refine kk H1 z1 ?_ o1 (hS.push z1 o1)
  show H1[H.size]? = some (vp_cell _ _)
  rw [vp_cell_i, e1]
  rfl
/-- where the law's arrays lie -/
def adN (a1 a2 : Nat) : Nat → Int → Nat := fun t _ => if t = 20 then a1 else a2
theorem la_new {a1 a2 : Nat} (hA0 : WI ccnt ad1 ∧ ∀ (t : Nat) (i : Int), 0 ≤ i → i < ccnt t → s.heap.size ≤ ad1 t i) (h1 : ∀ (t : Nat) (i : Int), 0 ≤ i → i < ccnt t → ad1 t i < a1) (h2 : a1 < a2) (h3 : s.heap.size ≤ a1) : LA ad1 (adN a1 a2) s.heap.size := by
  refine ⟨hA0, ⟨fun t i t' i' x z x' z' he => ?_, fun t i x z => ?_⟩, fun t i t' i' x z x' z' he => ?_⟩
  · obtain ⟨ht, hi⟩ := ncnt_lt x z
    obtain ⟨ht', hi'⟩ := ncnt_lt x' z'
    unfold adN at he
    rcases ht with rfl | rfl <;> rcases ht' with rfl | rfl
    · exact ⟨rfl, by rw [hi, hi']⟩
    · rw [if_pos rfl, if_neg (by decide)] at he; omega
    · rw [if_neg (by decide), if_pos rfl] at he; omega
    · exact ⟨rfl, by rw [hi, hi']⟩
  · unfold adN
    split <;> omega
  · have q := h1 t i x z
    unfold adN at he
    split at he <;> omega
theorem wn_new {a1 a2 : Nat} (e1 : va_at Dg vwCl (a1, .inl (cA 1, 1300, .inl (fun _ => zi 0))) H) (e2 : va_at Dg vwCl (a2, .inl (cA 1, 6, .inl (fun _ => zi 0))) H) : WP Dg ncnt (adN a1 a2) (nE cA (adN a1 a2) (fun _ _ _ => 0)) H := by
  intro t i x z
  obtain ⟨ht, rfl⟩ := ncnt_lt x z
  rcases ht with rfl | rfl
  · exact e1
  · exact e2
end L31D
theorem InvK : Inv 0 (24 * ((0 : Nat) : Int)) σK := by
  have e0 : σ0 26 0 0 = 0 := rfl
  have e1 : ups σ0 26 0 0 1 = ups σ0 26 0 0 (σ0 26 0 0 + 1) := rfl
  have h1 : Inv 0 0 (ups σ0 26 0 0 1) := by rw [e1]; exact Inv_list Inv0 (by omega)
  have e2 : ups (ups σ0 26 0 0 1) 26 0 0 2 = ups (ups σ0 26 0 0 1) 26 0 0 (ups σ0 26 0 0 1 26 0 0 + 1) := rfl
  have h2 : Inv 0 0 (ups (ups σ0 26 0 0 1) 26 0 0 2) := by rw [e2]; exact Inv_list h1 (by rw [ups_eq]; decide)
  have e3 : ups (ups (ups σ0 26 0 0 1) 26 0 0 2) 26 0 0 3 = ups (ups (ups σ0 26 0 0 1) 26 0 0 2) 26 0 0 (ups (ups σ0 26 0 0 1) 26 0 0 2 26 0 0 + 1) := rfl
  have h3 : Inv 0 0 (ups (ups (ups σ0 26 0 0 1) 26 0 0 2) 26 0 0 3) := by rw [e3]; exact Inv_list h2 (by rw [ups_eq]; decide)
  have e4 : σK = ups (ups (ups (ups σ0 26 0 0 1) 26 0 0 2) 26 0 0 3) 27 0 0 (ups (ups (ups σ0 26 0 0 1) 26 0 0 2) 26 0 0 3 27 0 0 + 1) := rfl
  rw [e4]
  exact Inv_kiosk h3 (by decide)
set_option maxHeartbeats 4000000 in
set_option maxRecDepth 100000 in
theorem law_made {p : Program} {e : Env} {s : State} {m : MethodId} {below : List Frame} {meth : Method} {c : Code} {l : Launch} {b L a av : Nat} {xs : Nat → Int32} {Dg : va_G} {cA : Nat → ClassId} {oc : Nat → Nat} {ls : Array Slot} (hLK : LK p l c s m meth b L xs Dg cA oc a av) (hAOW : AOW s) (hr : meth.sig.returnType = ret) (hl : lv_has ls 13 [(0, .ref b)]) : W p l e room_1 s m #[Value.ref b] below meth c s.heap [] 0 0 (lw_Z below #[Value.ref b] s) (F0 m 0 ls []) := by
  have hX0 := hLK.1
  have hx := hX0.1.1
  have hb := hX0.1.2.1
  have hts1 := hX0.1.2.2.2.1
  have hC := hX0.1
  have hS : va_S (NA s.heap.size) s.heap s.heap [] := va_S.rf
  obtain ⟨h0, hh0⟩ : ∃ z, z = s.heap.size := ⟨_, rfl⟩
  refine l_make (hb := h0) (C := RX7) (T := TX7) (N := 9) (ci := 8) (rest := []) hX0 hAOW inlX7 tyX7 tyX7_ok (hts1 (.classLink RL 10 RX7) (by decide +kernel)) (hts1 (.instantiable RX7 9) (by decide +kernel)) (hts1 (.initialized RX7) (by decide +kernel)) rfl (by decide +kernel) (c_X7 h0) (cwI 0 hts1 gL_law_X7_init rfl rfl rfl (hts1 (.initialized RX7) (by decide +kernel)) (hts1 (.methodLink RL 89 yX7_init) (by decide +kernel)) (hts1 (.instanceMethod yX7_init) (by decide +kernel)) rfl (by decide +kernel) ⟨Nat.le_of_ble_eq_true rfl, Nat.le_of_ble_eq_true rfl⟩) hh0.symm (by omega) hS hl.1 (Nat.le_of_ble_eq_true rfl) (Nat.le_of_ble_eq_true rfl) (Nat.le_of_ble_eq_true rfl) dL_law_0 dL_law_3 dL_law_4 (fun H1 locs1 hH1 hk1 hS => ?_)
  have w1 := wp_C hH1
  refine lv_astore_n (lv' := [(1, .ref h0), (0, .ref b)]) hx hb dL_law_7 rfl hl (by decide) rfl (fun ls hl => ?_)
  have hA0 : WI ccnt (adC h0) ∧ ∀ (t : Nat) (i : Int), 0 ≤ i → i < ccnt t → s.heap.size ≤ adC h0 t i := ⟨adC_WI h0, fun t i x y => by rw [← hh0]; exact (adC_rng h0 x y).1⟩
  refine lt_first hLK hA0 (C9 := 196) (S9 := 4701) ⟨Nat.le_of_ble_eq_true rfl, Nat.le_of_ble_eq_true rfl⟩ w1 hS hl (fun H2 locs2 ls w1 hS hl => ?_)
  have hlt : ∀ (t : Nat) (i : Int), 0 ≤ i → i < ccnt t → adC h0 t i < H2.size := fun t i x y => w1.lt x y
  have hS0 := hS.1
  refine k_sipush (n := 1300) hC dL_law_185 (by decide) ?_
  refine l_arr (M := 1300) hX0 (hts1 (.arrayClass .int) (by decide +kernel)) (by decide) hS (Nat.le_of_ble_eq_true rfl) (Nat.le_of_ble_eq_true rfl) dL_law_188 (fun H3 z3 e3 k3 hS => ?_)
  have w1 := w1.kept (fun t i x y => k3 _ (hlt t i x y))
  refine lv_astore_n (lv' := [(3, .ref H2.size), (2, .int (zi 1)), (1, .ref (adC h0 0 0)), (0, .ref b)]) hx hb dL_law_190 rfl hl (by decide) rfl (fun ls hl => ?_)
  refine k_bipush (n := 6) hC dL_law_191 (by decide) ?_
  refine l_arr (M := 6) hX0 (hts1 (.arrayClass .int) (by decide +kernel)) (by decide) hS (Nat.le_of_ble_eq_true rfl) (Nat.le_of_ble_eq_true rfl) dL_law_193 (fun H4 z4 e4 k4 hS => ?_)
  have w1 := w1.kept (fun t i x y => k4 _ (w1.lt x y))
  have e3 : va_at Dg vwCl (H2.size, .inl (cA 1, 1300, .inl (fun _ => zi 0))) H4 := e3.kept (k4 _ (by omega))
  refine lv_astore (lv' := [(4, .ref H3.size), (3, .ref H2.size), (2, .int (zi 1)), (1, .ref (adC h0 0 0)), (0, .ref b)]) hx hb dL_law_195 hl (by decide) rfl (fun ls hl => ?_)
  refine k_iconst hC dL_law_197 ?_
  refine lv_istore (lv' := [(5, .int (zi 0)), (4, .ref H3.size), (3, .ref H2.size), (2, .int (zi 1)), (1, .ref (adC h0 0 0)), (0, .ref b)]) hx hb dL_law_198 hl (by decide) rfl (fun ls hl => ?_)
  have hA : LA (adC h0) (adN H2.size H3.size) s.heap.size := la_new hA0 hlt (by omega) (by have q := hS0; omega)
  refine W.widen (k := 214 + 15 * 0) (n := 6103 + 90 * 0) (Nat.le_of_ble_eq_true rfl) (Nat.le_of_ble_eq_true rfl) ?_
  exact lt_loop hLK hA (C9 := 214) (S9 := 6103) ⟨Nat.le_of_ble_eq_true rfl, Nat.le_of_ble_eq_true rfl⟩ hr 40 0 rfl σK (fun _ _ _ => 0) H4 _ ls (InvK) (Or.inl ⟨by decide, R0_first⟩) ⟨by rw [R0_first.2.2.2.2.2.1]; decide, by rw [R0_first.2.2.2.2.2.1]; decide⟩ w1 (wn_new e3 e4) hS hl
set_option maxHeartbeats 4000000 in
set_option maxRecDepth 100000 in
theorem whole_start {p : Program} {e : Env} {s : State} {m : MethodId} {below : List Frame} {meth : Method} {c : Code} (l : Launch) (hflags : l.flags = flags0) {b L : Nat} {xs : Nat → Int32} (hL : L ≤ 260) (C0 : lw_At p s m meth c b L xs) : W p l e room_1 s m #[Value.ref b] below meth c s.heap [] 0 0 (lw_Z below #[Value.ref b] s) (entryFrame m ([Value.ref b] : List Value).toArray 13) := by
  obtain ⟨hx, hb, hr, hml, hown, hts, hXb, hbl, hlocks, hgv⟩ := id C0
  have hfl : l.stackTraces = false := by unfold Launch.stackTraces; rw [hflags]; decide +kernel
  obtain ⟨Dg, cA, hK⟩ := st_K hts
  obtain ⟨oc, hE⟩ := st_ENV hts hgv
  obtain ⟨a, av, hT, hR⟩ := st_ST hts hgv
  have hNc := st_Nc hgv
  have hAOW := st_AOW hts
  have hown : s.vm.findClass RL = some m.cls := hown
  have hts1 : ∀ w ∈ wsL_law, w.before #[Value.ref b] s = true := fun w hw => hts w (wsL_law_in w hw)
  have hX0 : KX p c cL_law s m meth #[Value.ref b] RL wsL_law Dg cA (fun _ => 0) (fun _ _ => 0) oc (NA s.heap.size) 13 (some .boolean) :=
    ⟨⟨hx, hb, hown, hts1, hK, fun t i t' i' h0 h1 => absurd h1 (by show ¬ i < (0 : Int); omega), fun t i h0 h1 => absurd h1 (by show ¬ i < (0 : Int); omega)⟩, hml, hr, hlocks, hE, fun q h => h⟩
  have hLK : LK p l c s m meth b L xs Dg cA oc a av := ⟨hX0, hNc, hXb, hbl, hfl, hL, hT, hR⟩
  have hl := lv_entry ([.ref b]) (n := 13) (Nat.le_of_ble_eq_true rfl)
  rw [lg_entry_eq]
  generalize (lg_sl ([.ref b]) ++ List.replicate (13 - (lg_sl ([.ref b])).length) Slot.unset).toArray = ls at hl ⊢
  have hl : lv_has ls 13 [(0, .ref b)] := hl
  exact law_made hLK hAOW hr hl
