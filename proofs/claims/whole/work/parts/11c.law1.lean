section LAW
variable {p : Program} {l : Launch} {e : Env} {R : Room} {s : State} {m : MethodId} {args : Array Value} {below : List Frame} {meth : Method} {c : Code} {H : Heap} {locs : List Loc} {cells slots : Nat} {Q : State → Prop} {cc bytes : ByteArray} {pc : Nat} {ls : Array Slot} {rest : List Value} {own C : String} {Ts ws : List Cond} {Dg : va_G} {cA : Nat → ClassId} {cL cD : ClassId} {ad1 ad2 : Nat → Int → Nat} {oc : Nat → Nat} {ao aD b L : Nat} {xs : Nat → Int32} {nL N ci : Nat} {T : u_T} {ret0 : Option FieldType} {y : MethodName} {rm : Room}
/-- new, dup, the constructor -/
theorem l_make {hb n mc ms ik ic maxL : Nat} {f : Nat → va_E} {fs : List Value} (hX0 : KX p c cc s m meth args own Ts Dg cA (fun _ => 0) (fun _ _ => 0) oc (NA s.heap.size) nL ret0) (hAOW : AOW s) (hin : ∀ w ∈ u_ws C T N, w ∈ Ts) (ty : Nat → FieldType) (hty : ∀ k, k < N → parseFieldDescriptor (T k).2.2.1 = some (ty k)) (hcl : (Cond.classLink own ik C).before args s = true) (hinst : (Cond.instantiable C N).before args s = true) (hini : (Cond.initialized C).before args s = true) (hc : vwCl[ci]? = some (C, T, N)) (hfs : ∀ j, j < N → defaultValue (ty j) = vp_V fs j) (hM : GN l y ws rm Dg cA hb ci fs n f mc ms) (cw : CallB R s args own ic y bytes maxL none ws rm mc ms 0 ∧ y.name = "<init>" ∧ (Cond.instanceMethod y).before args s = true) (hH : H.size = hb) (hb0 : s.heap.size ≤ hb) (hS : va_S (NA s.heap.size) s.heap H locs) (hls : ls.size = nL) (hcells : cells + 1 + mc ≤ R.cells) (hslots : slots + N + ms ≤ R.slots) (hcat : ((Value.ref hb :: rest).map fun v => v.category).sum ≤ 8) (d0 : decode cc pc = .ok (.new ik, 3)) (d3 : decode cc (pc + 3) = .ok (.dup, 1)) (d4 : decode cc (pc + 3 + 1) = .ok (.invokespecial ic, 3))
    (kk : ∀ (H2 : Heap) (locs2 : List Loc), HS Dg hb n f H2 → (∀ q : Nat, q < hb → H2[q]? = H[q]?) → va_S (NA s.heap.size) s.heap H2 locs2 → W p l e R s m args below meth c H2 locs2 (cells + 1 + mc) (slots + N + ms) Q (F0 m (pc + 3 + 1 + 3) ls (.ref hb :: rest))) : W p l e R s m args below meth c H locs cells slots Q (F0 m pc ls rest) := by
  have hx := hX0.1.1
  have hb9 := hX0.1.2.1
  have hown := hX0.1.2.2.1
  have hts := hX0.1.2.2.2.1
  have hK := hX0.1.2.2.2.2.1
  have hKn := hK.1 ci _ hc
  refine W.newcK hx hb9 hown hcl hinst hini rfl d0 (by omega) (by omega) hKn.2.1 hH fun H1 kC hkC e1 z1 o1 => ?_
  have z2 : H1.size = H.size + 1 := by rw [z1, hH]
  have o2 : ∀ q : Nat, q < H.size → H1[q]? = H[q]? := fun q hq => o1 q (by rw [← hH]; exact hq)
  have hS1 := hS.push z2 o2
  have hH1 : HS Dg hb 1 (fun _ => .inr (ci, fs)) H1 := ⟨z1, fun k hk => by
    have hk0 : k = 0 := by omega
    subst hk0
    exact ⟨_, hc, (u_born ty hts hin hKn hkC e1 hty).to hfs⟩⟩
  refine lv_dup hx hb9 d3 rfl ?_
  have hA1 : ∀ q : Nat, NA hb q → NA s.heap.size q := fun q h => Nat.le_trans hb0 h
  refine va_callv (va_runI (As := []) (rest := .ref hb :: rest) ⟨hx, hb9, hX0.2.1, hown, hts⟩ hM cw ⟨fun a U g mk q => by obtain ⟨q0, q1, q2, q3⟩ := q; exact ⟨q0, q1, va_K.moved (u := U) (U := U.calling g mk a) (Vm.Alike.refl U.vm) q2, AOW.same (u := U) (U := U.calling g mk a) rfl q3⟩, fun U hU hWm => ⟨rfl, by rw [hU]; exact hH1, va_K.moved hWm.alike hK, AOW.warm hWm hAOW⟩⟩ rfl rfl hls rfl (lv_room hcat) d4 ⟨hcells, hslots⟩) hS1 (fun q _ h => hA1 q h) hA1 (fun u t H2 locs2 ht _ _ hB hz hk hS2 => ?_)
  have hB : HS Dg hb n f t.heap := hB
  rw [ht] at hB
  exact kk H2 locs2 hB (fun q hq => (hk q (by rw [z1]; omega) (fun z => by have z : hb ≤ q := z; omega)).trans (o1 q hq)) hS2
/-- the two boxes -/
theorem l_box {hb : Nat} {atype : ArrayType} {cK : ClassId} {ty : FieldType} {dv : Value} (hX0 : KX p c cc s m meth args own Ts Dg cA (fun _ => 0) (fun _ _ => 0) oc (NA s.heap.size) nL ret0) (harr : (Cond.arrayClass (newarray.typeOf atype)).before args s = true) (hty : newarray.typeOf atype = ty) (hcb : 1 * componentBytes ty ≤ 536870912) (hnm : s.vm.findClass ("[" ++ ty.toString) = some cK) (hdv : defaultValue ty = dv) (hH : H.size = hb) (hS : va_S (NA s.heap.size) s.heap H locs) (hcells : cells + 1 ≤ R.cells) (hslots : slots + 1 ≤ R.slots) (hdg : decode cc pc = .ok (.newarray atype, 2))
    (kk : ∀ H1 : Heap, H1.size = hb + 1 → H1[hb]? = some (arrV cK 1 (fun _ => dv)) → (∀ q : Nat, q < hb → H1[q]? = H[q]?) → va_S (NA s.heap.size) s.heap H1 locs → W p l e R s m args below meth c H1 locs (cells + 1) (slots + 1) Q (F0 m (pc + 2) ls (.ref hb :: rest))) : W p l e R s m args below meth c H locs cells slots Q (F0 m pc ls (.int (zi 1) :: rest)) := by
  subst hty
  subst hdv
  refine va_newaK hX0.1.1 hX0.1.2.1 harr rfl hdg rfl (by decide) rfl hcb hcells hslots hH fun H1 cA9 e1 z1 o1 hAr hNm => ?_
  cases Option.some.inj (hNm.symm.trans hnm)
  exact kk H1 z1 e1 o1 (hS.push (by rw [z1, hH]) (fun q hq => o1 q (by rw [← hH]; exact hq)))
theorem law_exit (hK : LK p l c s m meth b L xs Dg cA cL cD oc) (hr : meth.sig.returnType = ret) (hS : va_S (NA s.heap.size) s.heap H locs) (hc : cells ≤ 603072) (hs : slots ≤ 7211114) : W p l e room_1 s m #[Value.ref b] below meth c H locs cells slots (lw_Z below #[Value.ref b] s) (F0 m 1728 ls []) := by
  have hx := hK.1.1.1
  have hb := hK.1.1.2.1
  refine W.widen (k := 603072) (n := 7211114) hc hs ?_
  refine va_forget hS.2.2 ?_
  refine lv_iconst (v := 1) hx hb dL_law_1728 (by decide) ?_
  exact lw_ret (d0 := s.drawn) (Drawn.sameBut.refl s.drawn lw_cs) hx hb hr hK.1.2.2.2.1 dL_law_1729
set_option maxHeartbeats 4000000 in
set_option maxRecDepth 100000 in
theorem law_loop (hK : LK p l c s m meth b L xs Dg cA cL cD oc) (hA : LA ad1 ad2 ao aD s.heap.size) (hr : meth.sig.returnType = ret) : ∀ (k9 r : Nat), r + k9 = 513 → ∀ (σ : St) (o : Int64) (d9 : UInt64) (H : Heap) (locs : List Loc) (ls : Array Slot), Inv (r : Int) (300 * (r : Int)) σ → LW Dg cA cL cD ad1 ad2 ao aD σ o d9 H → va_S (NA s.heap.size) s.heap H locs → lv_has ls 10 (lvL ad1 ad2 ao aD b (5 * (r : Int))) → W p l e room_1 s m #[Value.ref b] below meth c H locs (225 + r) (8255 + 6 * r) (lw_Z below #[Value.ref b] s) (F0 m 28 ls []) := by
  have hX0 := hK.1
  have hC := hX0.1
  have hx := hC.1
  have hb := hC.2.1
  have hXb := hK.2.2.2.1
  have hbl := hK.2.2.2.2.1
  have hL := hK.2.2.2.2.2.2
  have hbA : ¬ NA s.heap.size b := fun h => by have h : s.heap.size ≤ b := h; omega
  have eL : Int32.ofNat L = zi (L : Int) := by rw [zi_nI (by omega)]; rfl
  intro k9
  induction k9 with
  | zero =>
    intro r hrk σ o d9 H locs ls hv hW hS hl
    have hl : lv_has ls 10 [(5, .int (zi (5 * (r : Int)))), (4, .ref aD), (3, .ref ao), (2, .ref (ad2 0 0)), (1, .ref (ad1 0 0)), (0, .ref b)] := hl
    refine lv_iload hx hb dL_law_28 (lv_at hl 0 rfl) ?_
    refine lv_aload_n hx hb dL_law_30 rfl (lv_at hl 5 rfl) ?_
    refine va_slen hx hb hXb hbl hbA hS dL_law_31 ?_
    rw [eL]
    refine k_iconst hC dL_law_32 ?_
    refine k_isub hC dL_law_33 ?_
    refine k_icmp_gt (tgt := 1728) hC dL_law_34 (by decide) ⟨⟨by omega, by omega⟩, ⟨by omega, by omega⟩⟩ (fun z => ?_) (fun z => absurd z (by omega))
    exact law_exit hK hr hS (by omega) (by omega)
  | succ k9 ih =>
    intro r hrk σ o d9 H locs ls hv hW hS hl
    have hl0 := hl
    have hl : lv_has ls 10 [(5, .int (zi (5 * (r : Int)))), (4, .ref aD), (3, .ref ao), (2, .ref (ad2 0 0)), (1, .ref (ad1 0 0)), (0, .ref b)] := hl
    have cont : ∀ (σ' : St) (o' : Int64) (d' : UInt64) (H1 : Heap) (locs1 : List Loc) (ls1 : Array Slot), Inv ((r : Int) + 1) (300 * (r : Int) + 300) σ' → LW Dg cA cL cD ad1 ad2 ao aD σ' o' d' H1 → va_S (NA s.heap.size) s.heap H1 locs1 → lv_has ls1 10 (lvL ad1 ad2 ao aD b (5 * (r : Int))) → W p l e room_1 s m #[Value.ref b] below meth c H1 locs1 (225 + r + 1) (8255 + 6 * r + 6) (lw_Z below #[Value.ref b] s) (F0 m 1722 ls1 []) := by
      intro σ' o' d' H1 locs1 ls1 hv1 hW1 hS1 hl1
      refine k_iinc (k := 0) (a := 5 * (r : Int)) (lv' := [(5, .int (zi (5 * (r : Int) + 5))), (4, .ref aD), (3, .ref ao), (2, .ref (ad2 0 0)), (1, .ref (ad1 0 0)), (0, .ref b)]) hC dL_law_1722 hl1 rfl (by decide) rfl (fun ls2 hl2 => ?_)
      refine lv_goto (tgt := 28) hx hb dL_law_1725 (by decide) ?_
      refine W.widen (k := 225 + (r + 1)) (n := 8255 + 6 * (r + 1)) (by omega) (by omega) ?_
      have e5 : 5 * (r : Int) + 5 = 5 * ((r + 1 : Nat) : Int) := by omega
      rw [e5] at hl2
      exact ih (r + 1) (by omega) σ' o' d' H1 locs1 ls2 (Inv_mono hv1 (by omega) (by omega)) hW1 hS1 hl2
    refine lv_iload hx hb dL_law_28 (lv_at hl 0 rfl) ?_
    refine lv_aload_n hx hb dL_law_30 rfl (lv_at hl 5 rfl) ?_
    refine va_slen hx hb hXb hbl hbA hS dL_law_31 ?_
    rw [eL]
    refine k_iconst hC dL_law_32 ?_
    refine k_isub hC dL_law_33 ?_
    refine k_icmp_gt (tgt := 1728) hC dL_law_34 (by decide) ⟨⟨by omega, by omega⟩, ⟨by omega, by omega⟩⟩ (fun z => ?_) (fun z => ?_)
    · exact law_exit hK hr hS (by omega) (by omega)
    have hi : 0 ≤ 5 * (r : Int) ∧ 5 * (r : Int) + 5 ≤ L := ⟨by omega, by omega⟩
    have hN : (r : Int) ≤ 1000000 := by omega
    have hM : 0 ≤ 300 * (r : Int) ∧ 300 * (r : Int) ≤ 1000000 := ⟨by omega, by omega⟩
    have hcs : 225 + r + 1 ≤ 603072 ∧ 8255 + 6 * r + 6 ≤ 7211114 := ⟨by omega, by omega⟩
    refine lv_aload_n hx hb dL_law_37 rfl (lv_at hl 5 rfl) ?_
    refine lv_iload hx hb dL_law_38 (lv_at hl 0 rfl) ?_
    refine l_sld hK hS (by omega) dL_law_40 ?_
    refine k_bipush hC dL_law_41 (by decide) ?_
    refine lv_iand hx hb dL_law_43 ?_
    obtain ⟨j, hj, ej⟩ := pk_andE (zi (sx xs (5 * (r : Int)))) (m := zi 31) 5 (by decide)
    have e9 : nI j = zi (j : Int) := by rw [zi_nI (by omega)]; rfl
    rw [ej, e9]
    clear ej e9
    by_cases h28 : 28 ≤ j
    · refine k_tabOut (tgt := 1722) hC dL_law_44 ⟨by omega, by omega⟩ (Or.inr (by omega)) (by decide) ?_
      refine W.widen (k := 225 + r + 1) (n := 8255 + 6 * r + 6) (by omega) (by omega) ?_
      exact cont σ o d9 H locs ls (Inv_mono hv (by omega) (by omega)) hW hS hl0
    have hj28 : j < 28 := by omega
    clear hj h28
    match j, hj28 with
    | 0, _ =>
      refine k_tabIn (a' := 0) (tgt := 172) hC dL_law_44 rfl (by decide) (by decide) (by decide) rfl (by decide) ?_
      exact lc_list hK hA hv hN hM hi hcs hW hS hl0 cont
    | 1, _ =>
      refine k_tabIn (a' := 1) (tgt := 216) hC dL_law_44 rfl (by decide) (by decide) (by decide) rfl (by decide) ?_
      exact lc_line hK hA hv hN hM hi hcs hW hS hl0 cont
    | 2, _ =>
      refine k_tabIn (a' := 2) (tgt := 310) hC dL_law_44 rfl (by decide) (by decide) (by decide) rfl (by decide) ?_
      exact lc_cut hK hA hv hN hM hi hcs hW hS hl0 cont
    | 3, _ =>
      refine k_tabIn (a' := 3) (tgt := 378) hC dL_law_44 rfl (by decide) (by decide) (by decide) rfl (by decide) ?_
      exact lc_lines hK hA hv hN hM hi hcs hW hS hl0 cont
    | 4, _ =>
      refine k_tabIn (a' := 4) (tgt := 448) hC dL_law_44 rfl (by decide) (by decide) (by decide) rfl (by decide) ?_
      exact lc_kiosk hK hA hv hN hM hi hcs hW hS hl0 cont
    | 5, _ =>
      refine k_tabIn (a' := 5) (tgt := 492) hC dL_law_44 rfl (by decide) (by decide) (by decide) rfl (by decide) ?_
      exact lc_start hK hA hv hN hM hi hcs hW hS hl0 cont
    | 6, _ =>
      refine k_tabIn (a' := 6) (tgt := 560) hC dL_law_44 rfl (by decide) (by decide) (by decide) rfl (by decide) ?_
      exact lc_stop hK hA hv hN hM hi hcs hW hS hl0 cont
    | 7, _ =>
      refine k_tabIn (a' := 7) (tgt := 616) hC dL_law_44 rfl (by decide) (by decide) (by decide) rfl (by decide) ?_
      exact lc_freeze hK hA hv hN hM hi hcs hW hS hl0 cont
    | 8, _ =>
      refine k_tabIn (a' := 8) (tgt := 679) hC dL_law_44 rfl (by decide) (by decide) (by decide) rfl (by decide) ?_
      exact lc_thaw hK hA hv hN hM hi hcs hW hS hl0 cont
    | 9, _ =>
      refine k_tabIn (a' := 9) (tgt := 735) hC dL_law_44 rfl (by decide) (by decide) (by decide) rfl (by decide) ?_
      exact lc_state hK hA hv hN hM hi hcs hW hS hl0 cont
    | 10, _ =>
      refine k_tabIn (a' := 10) (tgt := 791) hC dL_law_44 rfl (by decide) (by decide) (by decide) rfl (by decide) ?_
      exact lc_plays hK hA hv hN hM hi hcs hW hS hl0 cont
    | 11, _ =>
      refine k_tabIn (a' := 11) (tgt := 847) hC dL_law_44 rfl (by decide) (by decide) (by decide) rfl (by decide) ?_
      exact lc_playerAt hK hA hv hN hM hi hcs hW hS hl0 cont
    | 12, _ =>
      refine k_tabIn (a' := 12) (tgt := 915) hC dL_law_44 rfl (by decide) (by decide) (by decide) rfl (by decide) ?_
      exact lc_next hK hA hv hN hM hi hcs hW hS hl0 cont
    | 13, _ =>
      refine k_tabIn (a' := 13) (tgt := 971) hC dL_law_44 rfl (by decide) (by decide) (by decide) rfl (by decide) ?_
      exact lc_count hK hA hv hN hM hi hcs hW hS hl0 cont
    | 14, _ =>
      refine k_tabIn (a' := 14) (tgt := 1027) hC dL_law_44 rfl (by decide) (by decide) (by decide) rfl (by decide) ?_
      exact lc_waits hK hA hv hN hM hi hcs hW hS hl0 cont
    | 15, _ =>
      refine k_tabIn (a' := 15) (tgt := 1083) hC dL_law_44 rfl (by decide) (by decide) (by decide) rfl (by decide) ?_
      exact lc_tick hK hA hv hN hM hi hcs hW hS hl0 cont
    | 16, _ =>
      refine k_tabIn (a' := 16) (tgt := 1139) hC dL_law_44 rfl (by decide) (by decide) (by decide) rfl (by decide) ?_
      exact lc_slide hK hA hv hN hM hi hcs hW hS hl0 cont
    | 17, _ =>
      refine k_tabIn (a' := 17) (tgt := 1195) hC dL_law_44 rfl (by decide) (by decide) (by decide) rfl (by decide) ?_
      exact lc_holder hK hA hv hN hM hi hcs hW hS hl0 cont
    | 18, _ =>
      refine k_tabIn (a' := 18) (tgt := 1251) hC dL_law_44 rfl (by decide) (by decide) (by decide) rfl (by decide) ?_
      exact lc_queued hK hA hv hN hM hi hcs hW hS hl0 cont
    | 19, _ =>
      refine k_tabIn (a' := 19) (tgt := 1319) hC dL_law_44 rfl (by decide) (by decide) (by decide) rfl (by decide) ?_
      exact lc_visitor hK hA hv hN hM hi hcs hW hS hl0 cont
    | 20, _ =>
      refine k_tabIn (a' := 20) (tgt := 1363) hC dL_law_44 rfl (by decide) (by decide) (by decide) rfl (by decide) ?_
      exact lc_go hK hA hv hN hM hi hcs hW hS hl0 cont
    | 21, _ =>
      refine k_tabIn (a' := 21) (tgt := 1431) hC dL_law_44 rfl (by decide) (by decide) (by decide) rfl (by decide) ?_
      exact lc_ask hK hA hv hN hM hi hcs hW hS hl0 cont
    | 22, _ =>
      refine k_tabIn (a' := 22) (tgt := 1506) hC dL_law_44 rfl (by decide) (by decide) (by decide) rfl (by decide) ?_
      exact lc_saw hK hA hv hN hM hi hcs hW hS hl0 cont
    | 23, _ =>
      refine k_tabIn (a' := 23) (tgt := 1574) hC dL_law_44 rfl (by decide) (by decide) (by decide) rfl (by decide) ?_
      exact lc_done hK hA hv hN hM hi hcs hW hS hl0 cont
    | 24, _ =>
      refine k_tabIn (a' := 24) (tgt := 1588) hC dL_law_44 rfl (by decide) (by decide) (by decide) rfl (by decide) ?_
      exact lc_heldShare hK hA hv hN hM hi hcs hW hS hl0 cont
    | 25, _ =>
      refine k_tabIn (a' := 25) (tgt := 1631) hC dL_law_44 rfl (by decide) (by decide) (by decide) rfl (by decide) ?_
      exact lc_heldBits hK hA hv hN hM hi hcs hW hS hl0 cont
    | 26, _ =>
      refine k_tabIn (a' := 26) (tgt := 1644) hC dL_law_44 rfl (by decide) (by decide) (by decide) rfl (by decide) ?_
      exact lc_meanSeen hK hA hv hN hM hi hcs hW hS hl0 cont
    | 27, _ =>
      refine k_tabIn (a' := 27) (tgt := 1709) hC dL_law_44 rfl (by decide) (by decide) (by decide) rfl (by decide) ?_
      exact lc_isSound hK hA hv hN hM hi hcs hW hS hl0 cont
    | j + 28, h => exact absurd h (by omega)
end LAW
