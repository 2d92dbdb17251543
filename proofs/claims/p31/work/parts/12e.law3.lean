section L31C
set_option maxHeartbeats 4000000 in
set_option maxRecDepth 100000 in
theorem lt_end {p : Program} {l : Launch} {e : Env} {s : State} {m : MethodId} {below : List Frame} {meth : Method} {c : Code} {H : Heap} {locs : List Loc} {ls : Array Slot} {Dg : va_G} {cA : Nat → ClassId} {ad1 ad2 : Nat → Int → Nat} {oc : Nat → Nat} {b L a av : Nat} {xs : Nat → Int32} (hK : LK p l c s m meth b L xs Dg cA oc a av) (hA : LA ad1 ad2 s.heap.size) {N M k : Int} {σ τ : St} {C9 S9 : Nat} (hv : Inv N M σ) (hNn : N ≤ 1000000) (h1 : R1 σ τ) (hr9 : meth.sig.returnType = ret) (hcs : C9 + 40 ≤ 600312 ∧ S9 + 240 ≤ 7292994) (hW : WP Dg ccnt ad1 (cE cA ad1 σ) H) (hN : WP Dg ncnt ad2 (nE cA ad2 τ) H) (hS : va_S (NA s.heap.size) s.heap H locs) (hl : lv_has ls 13 [(5, .int (zi k)), (4, .ref (ad2 21 0)), (3, .ref (ad2 20 0)), (2, .int (zi 1)), (1, .ref (ad1 0 0)), (0, .ref b)]) : W p l e room_1 s m #[Value.ref b] below meth c H locs C9 S9 (lw_Z below #[Value.ref b] s) (F0 m 1052 ls []) := by
  have hI : WI ccnt ad1 := hA.1.1
  have hI2 : WI ncnt ad2 := hA.2.1.1
  have hfl := hK.2.2.2.2.1
  have hC0 := hK.1.1
  have hx := hC0.1
  have hb := hC0.2.1
  have hts := hC0.2.2.2.1
  obtain ⟨q26, q27, q28, q12, q13⟩ := h1.2.2.2.1
  have hh := held_rng σ 0
  refine lv_iload_n hx hb dL_law_1052 rfl (lv_at hl 3 rfl) ?_
  refine k_if_eq (tgt := 1097) hC0 dL_law_1053 (by decide) (by omega) (fun c1 => absurd c1 (by omega)) (fun c1 => ?_)
  refine lv_aload_n hx hb dL_law_1056 rfl (lv_at hl 4 rfl) ?_
  refine l_cI (As := []) (rest := []) hK hA hl.1 (m_isSound hI σ hv (by omega)) (cwV 0 hts gL_law_X7_isSound rfl rfl rfl (by decide +kernel) ⟨Nat.le_of_ble_eq_true rfl, Nat.le_of_ble_eq_true rfl⟩) (rc_KR (hK.kc hA.1).1 hW) hW hN hS ⟨by show C9 ≤ 600312; omega, by show S9 ≤ 7292994; omega⟩ rfl rfl (by decide) dL_law_1057 (fun H locs hW hN hS => ?_)
  refine k_if_eq (tgt := 1097) hC0 dL_law_1060 (by decide) (by omega) (fun c2 => absurd c2 (by omega)) (fun c2 => ?_)
  refine lv_aload_n hx hb dL_law_1063 rfl (lv_at hl 4 rfl) ?_
  refine k_iconst hC0 dL_law_1064 ?_
  refine l_w (As := [.ref (ad1 0 0), .int (zi 0)]) (rest := []) hK hA hl.1 (w_stop hI hfl σ 0 hv (by omega) h1.2.2.2.2.2.1) (vx_cwSW 2 hts gL_law_L_stop rfl rfl rfl (by decide +kernel) ⟨Nat.le_of_ble_eq_true rfl, Nat.le_of_ble_eq_true rfl⟩) hW hN hS ⟨by show C9 + 1 ≤ 600312; omega, by show S9 + 6 ≤ 7292994; omega⟩ rfl rfl (by decide) dL_law_1065 (fun H locs hW hN hS => ?_)
  obtain ⟨σ3, hσ3⟩ : ∃ z, z = (fStop σ 0) := ⟨_, rfl⟩
  rw [← hσ3] at hW
  refine k_if_lt (tgt := 1097) hC0 dL_law_1068 (by decide) (by omega) (fun c4 => absurd c4 (by omega)) (fun c4 => ?_)
  have hv1 : Inv N M σ3 := by rw [hσ3]; exact Inv_fStop hv (by decide) h1.2.2.2.2.2.1
  have s27 : σ3 27 0 0 = 1 := by rw [hσ3, fStop_27 σ 0 (t := 27) (by decide)]; exact q27
  have s26 : σ3 26 0 0 = 3 := by rw [hσ3, fStop_27 σ 0 (t := 26) (by decide)]; exact q26
  have s6 : σ3 6 0 0 = 0 := by rw [hσ3]; exact fStop_6 σ 0
  refine lv_aload_n hx hb dL_law_1071 rfl (lv_at hl 4 rfl) ?_
  refine k_iconst hC0 dL_law_1072 ?_
  refine l_w (As := [.ref (ad1 0 0), .int (zi 0)]) (rest := []) hK hA hl.1 (w_stop_n hI hfl σ3 0 hv1 (by omega) s6) (vx_cwSW 2 hts gL_law_L_stop rfl rfl rfl (by decide +kernel) ⟨Nat.le_of_ble_eq_true rfl, Nat.le_of_ble_eq_true rfl⟩) hW hN hS ⟨by show C9 + 1 + 1 ≤ 600312; omega, by show S9 + 6 + 6 ≤ 7292994; omega⟩ rfl rfl (by decide) dL_law_1073 (fun H locs hW hN hS => ?_)
  refine k_ldc (n := (-900002)) hC0 (by decide) (hts (.constant RL 26 (-900002)) (by decide +kernel)) dL_law_1076 ?_
  refine k_same hC0 rfl dL_law_1078 (tgt := 1097) (by decide) ?_
  refine lv_aload_n hx hb dL_law_1081 rfl (lv_at hl 4 rfl) ?_
  refine k_iconst hC0 dL_law_1082 ?_
  refine k_bipush hC0 dL_law_1083 (by decide) ?_
  refine l_w (As := [.ref (ad1 0 0), .int (zi 3), .int (zi 115)]) (rest := []) hK hA hl.1 (w_lines_x hI hfl σ3 3 115 hv1 (by omega) (by omega)) (vx_cwSW 3 hts gL_law_L_lines rfl rfl rfl (by decide +kernel) ⟨Nat.le_of_ble_eq_true rfl, Nat.le_of_ble_eq_true rfl⟩) hW hN hS ⟨by show C9 + 1 + 1 + 1 ≤ 600312; omega, by show S9 + 6 + 6 + 6 ≤ 7292994; omega⟩ rfl rfl (by decide) dL_law_1085 (fun H locs hW hN hS => ?_)
  refine k_ldc (n := (-900001)) hC0 (by decide) (hts (.constant RL 17 (-900001)) (by decide +kernel)) dL_law_1088 ?_
  refine k_same hC0 rfl dL_law_1090 (tgt := 1097) (by decide) ?_
  refine lv_iconst (v := 1) hx hb dL_law_1093 (by decide) ?_
  refine lv_goto (tgt := 1098) hx hb dL_law_1094 (by decide) ?_
  refine W.widen (k := 600312) (n := 7292994) (by omega) (by omega) ?_
  refine va_forget hS.2.2 ?_
  exact lw_ret (d0 := s.drawn) (Drawn.sameBut.refl s.drawn lw_cs) hx hb hr9 hK.1.2.2.2.1 dL_law_1098

set_option maxHeartbeats 4000000 in
set_option maxRecDepth 100000 in
theorem lt_loop {p : Program} {l : Launch} {e : Env} {s : State} {m : MethodId} {below : List Frame} {meth : Method} {c : Code} {Dg : va_G} {cA : Nat → ClassId} {ad1 ad2 : Nat → Int → Nat} {oc : Nat → Nat} {b L a av : Nat} {xs : Nat → Int32} (hK : LK p l c s m meth b L xs Dg cA oc a av) (hA : LA ad1 ad2 s.heap.size) {C9 S9 : Nat} (hcs : C9 + 700 ≤ 600312 ∧ S9 + 4200 ≤ 7292994) (hr9 : meth.sig.returnType = ret) : ∀ (r9 k : Nat), k + r9 = 40 → ∀ (σ τ : St) (H : Heap) (locs : List Loc) (ls : Array Slot), Inv 0 (24 * (k : Int)) σ → RK (k : Int) σ τ → (0 ≤ σ 29 0 0 ∧ σ 29 0 0 ≤ 32 * (k : Int)) → WP Dg ccnt ad1 (cE cA ad1 σ) H → WP Dg ncnt ad2 (nE cA ad2 τ) H → va_S (NA s.heap.size) s.heap H locs → lv_has ls 13 [(5, .int (zi (k : Int))), (4, .ref (ad2 21 0)), (3, .ref (ad2 20 0)), (2, .int (zi 1)), (1, .ref (ad1 0 0)), (0, .ref b)] → W p l e room_1 s m #[Value.ref b] below meth c H locs (C9 + 15 * k) (S9 + 90 * k) (lw_Z below #[Value.ref b] s) (F0 m 200 ls []) := by
  have hI : WI ccnt ad1 := hA.1.1
  have hI2 : WI ncnt ad2 := hA.2.1.1
  have hfl := hK.2.2.2.2.1
  have hC0 := hK.1.1
  have hx := hC0.1
  have hb := hC0.2.1
  have hts := hC0.2.2.2.1
  intro r9
  induction r9 with
  | zero =>
    intro k hrk σ τ H locs ls hv hkr h29 hW hN hS hl
    refine lv_iload hx hb dL_law_200 (lv_at hl 0 rfl) ?_
    refine k_bipush hC0 dL_law_202 (by decide) ?_
    refine k_icmp_ge (tgt := 1052) hC0 dL_law_204 (by decide) (by omega) (fun c1 => ?_) (fun c1 => absurd c1 (by omega))
    exact lt_end hK hA (N := 0) (M := 24 * (k : Int)) (C9 := C9 + 15 * k) (S9 := S9 + 90 * k) hv (by decide) (hkr.elim (fun z => absurd z.1 (by omega)) (fun z => z.2)) hr9 ⟨by omega, by omega⟩ hW hN hS hl
  | succ r9 ih =>
    intro k hrk σ τ H locs ls hv hkr h29 hW hN hS hl
    refine lv_iload hx hb dL_law_200 (lv_at hl 0 rfl) ?_
    refine k_bipush hC0 dL_law_202 (by decide) ?_
    refine k_icmp_ge (tgt := 1052) hC0 dL_law_204 (by decide) (by omega) (fun c1 => absurd c1 (by omega)) (fun c1 => ?_)
    refine lv_iload_n hx hb dL_law_207 rfl (lv_at hl 3 rfl) ?_
    refine k_if_eq (tgt := 1052) hC0 dL_law_208 (by decide) (by omega) (fun c2 => absurd c2 (by omega)) (fun c2 => ?_)
    refine k_bipush hC0 dL_law_211 (by decide) ?_
    refine lv_iload hx hb dL_law_213 (lv_at hl 0 rfl) ?_
    refine k_imul hC0 dL_law_215 ?_
    refine lv_istore (lv' := [(6, .int (zi (8 * (k : Int)))), (5, .int (zi (k : Int))), (4, .ref (ad2 21 0)), (3, .ref (ad2 20 0)), (2, .int (zi 1)), (1, .ref (ad1 0 0)), (0, .ref b)]) hx hb dL_law_216 hl (by decide) rfl (fun ls hl => ?_)
    refine lv_aload_n hx hb dL_law_218 rfl (lv_at hl 6 rfl) ?_
    refine lv_iload hx hb dL_law_219 (lv_at hl 0 rfl) ?_
    refine k_iconst hC0 dL_law_221 ?_
    refine k_iadd hC0 dL_law_222 ?_
    refine k_iconst hC0 dL_law_223 ?_
    refine l_in hK (by omega) (by omega) hl.1 hW hN hS ⟨by show C9 + 15 * k ≤ 600312; omega, by show S9 + 90 * k ≤ 7292994; omega⟩ (Nat.le_of_ble_eq_true rfl) dL_law_224 (fun H locs la hla hW hN hS => ?_)
    obtain ⟨m0, m1, m2⟩ := hkr.L la hla.1 hla.2
    refine lv_istore (lv' := [(7, .int (zi la)), (6, .int (zi (8 * (k : Int)))), (5, .int (zi (k : Int))), (4, .ref (ad2 21 0)), (3, .ref (ad2 20 0)), (2, .int (zi 1)), (1, .ref (ad1 0 0)), (0, .ref b)]) hx hb dL_law_227 hl (by decide) rfl (fun ls hl => ?_)
    refine lv_aload_n hx hb dL_law_229 rfl (lv_at hl 4 rfl) ?_
    refine k_bipush hC0 dL_law_230 (by decide) ?_
    refine lv_iload hx hb dL_law_232 (lv_at hl 0 rfl) ?_
    refine k_imul hC0 dL_law_234 ?_
    refine lr_net (v := σ 3 la 0) hK hA hN (by omega) m1 dL_law_235 ?_
    refine lv_istore (lv' := [(8, .int (zi (σ 3 la 0))), (7, .int (zi la)), (6, .int (zi (8 * (k : Int)))), (5, .int (zi (k : Int))), (4, .ref (ad2 21 0)), (3, .ref (ad2 20 0)), (2, .int (zi 1)), (1, .ref (ad1 0 0)), (0, .ref b)]) hx hb dL_law_236 hl (by decide) rfl (fun ls hl => ?_)
    have contJ : ∀ (σ1 τ1 : St) (H : Heap) (locs : List Loc) (ls : Array Slot), Inv 0 (24 * (k : Int)) σ1 → RA (k : Int) σ1 τ1 → σ1 29 0 0 = σ 29 0 0 → WP Dg ccnt ad1 (cE cA ad1 σ1) H → WP Dg ncnt ad2 (nE cA ad2 τ1) H → va_S (NA s.heap.size) s.heap H locs → lv_has ls 13 [(7, .int (zi la)), (6, .int (zi (8 * (k : Int)))), (5, .int (zi (k : Int))), (4, .ref (ad2 21 0)), (3, .ref (ad2 20 0)), (2, .int (zi 1)), (1, .ref (ad1 0 0)), (0, .ref b)] → W p l e room_1 s m #[Value.ref b] below meth c H locs (C9 + 15 * k + 5) (S9 + 90 * k + 30) (lw_Z below #[Value.ref b] s) (F0 m 790 ls []) := by
      intro σ1 τ1 H locs ls hv1 hr1 h9 hW hN hS hl
      refine lt_rest hK hA (N := 0) (M := 24 * (k : Int)) (C9 := C9 + 15 * k + 5) (S9 := S9 + 90 * k + 30) ⟨by omega, by omega⟩ hla hv1 (by decide) hr1 ⟨by omega, by omega⟩ ⟨by omega, by omega⟩ hW hN hS hl (fun σ2 τ2 H locs ls hv2 hr2 h92 hW hN hS hl => ?_)
      refine k_iinc (a := (k : Int)) (lv' := [(5, .int (zi ((k : Int) + 1))), (4, .ref (ad2 21 0)), (3, .ref (ad2 20 0)), (2, .int (zi 1)), (1, .ref (ad1 0 0)), (0, .ref b)]) hC0 dL_law_1046 hl (k := 0) rfl (by decide) rfl (fun ls hl => ?_)
      refine lv_goto (tgt := 200) hx hb dL_law_1049 (by decide) ?_
      have e1 : (k : Int) + 1 = ((k + 1 : Nat) : Int) := by omega
      rw [e1] at hl hr2 h92
      refine W.widen (k := C9 + 15 * (k + 1)) (n := S9 + 90 * (k + 1)) (by omega) (by omega) ?_
      exact ih (k + 1) (by omega) σ2 τ2 H locs ls (Inv_mono hv2 (by omega) (by omega)) hr2 h92 hW hN hS hl
    refine lv_iload hx hb dL_law_238 (lv_at hl 3 rfl) ?_
    refine k_bipush hC0 dL_law_240 (by decide) ?_
    refine k_icmp_ne (tgt := 321) hC0 dL_law_242 (by decide) (by omega) (fun c3 => ?_) (fun c3 => ?_)
    · refine lv_aload_n hx hb dL_law_321 rfl (lv_at hl 8 rfl) ?_
      refine lv_iload hx hb dL_law_322 (lv_at hl 2 rfl) ?_
      refine k_iconst hC0 dL_law_324 ?_
      refine l_in hK (by omega) (by omega) hl.1 hW hN hS ⟨by show C9 + 15 * k ≤ 600312; omega, by show S9 + 90 * k ≤ 7292994; omega⟩ (Nat.le_of_ble_eq_true rfl) dL_law_325 (fun H locs r4 hr4 hW hN hS => ?_)
      refine k_if_gt (tgt := 338) hC0 dL_law_328 (by decide) (by omega) (fun c5 => ?_) (fun c5 => ?_)
      · exact lt_ins1 hK hA (N := 0) (M := 24 * (k : Int)) (C9 := C9 + 15 * k) (S9 := S9 + 90 * k) ⟨by omega, by omega⟩ hla hv (RK_A hkr (by omega)) ⟨by omega, by omega⟩ hW hN hS hl contJ
      · refine lv_iload hx hb dL_law_331 (lv_at hl 3 rfl) ?_
        refine k_bipush hC0 dL_law_333 (by decide) ?_
        refine k_icmp_ge (tgt := 638) hC0 dL_law_335 (by decide) (by omega) (fun c6 => ?_) (fun c6 => ?_)
        · exact lt_cut hK hA (N := 0) (M := 24 * (k : Int)) (C9 := C9 + 15 * k) (S9 := S9 + 90 * k) ⟨by omega, by omega⟩ hla hv (RK_A hkr (by omega)) ⟨by omega, by omega⟩ hW hN hS hl contJ
        · exact lt_ins1 hK hA (N := 0) (M := 24 * (k : Int)) (C9 := C9 + 15 * k) (S9 := S9 + 90 * k) ⟨by omega, by omega⟩ hla hv (RK_A hkr (by omega)) ⟨by omega, by omega⟩ hW hN hS hl contJ
    · exact lt_start hK hA (N := 0) (M := 24 * (k : Int)) (C9 := C9 + 15 * k) (S9 := S9 + 90 * k) (by omega) hla hv (hkr.elim (fun z => z.2) (fun z => absurd z.1 (by omega))) ⟨by omega, by omega⟩ hW hN hS hl contJ

set_option maxHeartbeats 4000000 in
set_option maxRecDepth 100000 in
theorem lt_first {p : Program} {l : Launch} {e : Env} {s : State} {m : MethodId} {below : List Frame} {meth : Method} {c : Code} {H : Heap} {locs : List Loc} {ls : Array Slot} {Dg : va_G} {cA : Nat → ClassId} {ad1 : Nat → Int → Nat} {oc : Nat → Nat} {b L a av : Nat} {xs : Nat → Int32} (hK : LK p l c s m meth b L xs Dg cA oc a av) (hA0 : WI ccnt ad1 ∧ ∀ (t : Nat) (i : Int), 0 ≤ i → i < ccnt t → s.heap.size ≤ ad1 t i) {C9 S9 : Nat} (hcs : C9 + 40 ≤ 600312 ∧ S9 + 240 ≤ 7292994) (hW : WP Dg ccnt ad1 (cE cA ad1 σ0) H) (hS : va_S (NA s.heap.size) s.heap H locs) (hl : lv_has ls 13 [(1, .ref (ad1 0 0)), (0, .ref b)]) (kk : ∀ (H : Heap) (locs : List Loc) (ls : Array Slot), WP Dg ccnt ad1 (cE cA ad1 σK) H → va_S (NA s.heap.size) s.heap H locs → lv_has ls 13 [(2, .int (zi 1)), (1, .ref (ad1 0 0)), (0, .ref b)] → W p l e room_1 s m #[Value.ref b] below meth c H locs (C9 + 1 + 1 + 1 + 1 + 1 + 1 + 1 + 1 + 1 + 1 + 1 + 1 + 1 + 1 + 1 + 1) (S9 + 6 + 6 + 6 + 6 + 6 + 6 + 6 + 6 + 6 + 6 + 6 + 6 + 6 + 6 + 6 + 6) (lw_Z below #[Value.ref b] s) (F0 m 185 ls [])) : W p l e room_1 s m #[Value.ref b] below meth c H locs C9 S9 (lw_Z below #[Value.ref b] s) (F0 m 8 ls []) := by
  have hI : WI ccnt ad1 := hA0.1
  have hfl := hK.2.2.2.2.1
  have hC0 := hK.1.1
  have hx := hC0.1
  have hb := hC0.2.1
  have hts := hC0.2.2.2.1
  have hv0 : Inv 0 0 σ0 := Inv0
  have e260 : σ0 26 0 0 = 0 := rfl
  have e270 : σ0 27 0 0 = 0 := rfl
  refine lv_aload_n hx hb dL_law_8 rfl (lv_at hl 0 rfl) ?_
  refine l_wD0 (As := [.ref (ad1 0 0)]) (rest := []) hK hA0 hl.1 (w_meanSeen_x hI hfl σ0 rfl) (vx_cwSW 1 hts gL_law_L_meanSeen rfl rfl rfl (by decide +kernel) ⟨Nat.le_of_ble_eq_true rfl, Nat.le_of_ble_eq_true rfl⟩) hW hS ⟨by show C9 + 1 ≤ 600312; omega, by show S9 + 6 ≤ 7292994; omega⟩ rfl rfl (by decide) dL_law_9 (fun H locs hW hS _ _ => ?_)
  refine lv_ldc2d hx hb hC0.2.2.1 (hts (.constantDouble RL 76 (13919350198670196736)) (by decide +kernel)) dL_law_12 ?_
  refine lv_dcmp hx hb dL_law_15 ?_
  rw [show Op.cmpValue (FP.dcmp 13919350198670196736 13919350198670196736) CmpOp.l = zi 0 by decide +kernel]
  refine k_if_ne (tgt := 183) hC0 dL_law_16 (by decide) (by omega) (fun c1 => absurd c1 (by omega)) (fun c1 => ?_)
  refine lv_aload_n hx hb dL_law_19 rfl (lv_at hl 0 rfl) ?_
  refine k_iconst hC0 dL_law_20 ?_
  refine k_iconst hC0 dL_law_21 ?_
  refine l_w0 (As := [.ref (ad1 0 0), .int (zi 0), .int (zi 0)]) (rest := []) hK hA0 hl.1 (w_start_x hI hfl σ0 0 0 hv0 (by omega) (by omega)) (vx_cwSW 3 hts gL_law_L_start rfl rfl rfl (by decide +kernel) ⟨Nat.le_of_ble_eq_true rfl, Nat.le_of_ble_eq_true rfl⟩) hW hS ⟨by show C9 + 1 + 1 ≤ 600312; omega, by show S9 + 6 + 6 ≤ 7292994; omega⟩ rfl rfl (by decide) dL_law_22 (fun H locs hW hS _ _ => ?_)
  refine k_ldc (n := (-900001)) hC0 (by decide) (hts (.constant RL 17 (-900001)) (by decide +kernel)) dL_law_25 ?_
  refine k_same hC0 rfl dL_law_27 (tgt := 183) (by decide) ?_
  refine lv_aload_n hx hb dL_law_30 rfl (lv_at hl 0 rfl) ?_
  refine l_w0 (As := [.ref (ad1 0 0)]) (rest := []) hK hA0 hl.1 (w_list hI hfl σ0 (by omega)) (vx_cwSW 1 hts gL_law_L_list rfl rfl rfl (by decide +kernel) ⟨Nat.le_of_ble_eq_true rfl, Nat.le_of_ble_eq_true rfl⟩) hW hS ⟨by show C9 + 1 + 1 + 1 ≤ 600312; omega, by show S9 + 6 + 6 + 6 ≤ 7292994; omega⟩ rfl rfl (by decide) dL_law_31 (fun H locs hW hS _ _ => ?_)
  obtain ⟨σ3, hσ3⟩ : ∃ z, z = (ups σ0 26 0 0 (σ0 26 0 0 + 1)) := ⟨_, rfl⟩
  rw [← hσ3] at hW
  refine k_top0 (show (σ0 26 0 0 : Int) = 0 from e260) ?_
  have e261 : σ3 26 0 0 = 1 := by rw [hσ3, ups_eq, e260]; rfl
  have hv1 : Inv 0 0 σ3 := by rw [hσ3]; exact Inv_list hv0 (by omega)
  refine k_if_ne (tgt := 183) hC0 dL_law_34 (by decide) (by omega) (fun c4 => absurd c4 (by omega)) (fun c4 => ?_)
  refine lv_aload_n hx hb dL_law_37 rfl (lv_at hl 0 rfl) ?_
  refine l_w0 (As := [.ref (ad1 0 0)]) (rest := []) hK hA0 hl.1 (w_list hI hfl σ3 (by omega)) (vx_cwSW 1 hts gL_law_L_list rfl rfl rfl (by decide +kernel) ⟨Nat.le_of_ble_eq_true rfl, Nat.le_of_ble_eq_true rfl⟩) hW hS ⟨by show C9 + 1 + 1 + 1 + 1 ≤ 600312; omega, by show S9 + 6 + 6 + 6 + 6 ≤ 7292994; omega⟩ rfl rfl (by decide) dL_law_38 (fun H locs hW hS _ _ => ?_)
  obtain ⟨σ5, hσ5⟩ : ∃ z, z = (ups σ3 26 0 0 (σ3 26 0 0 + 1)) := ⟨_, rfl⟩
  rw [← hσ5] at hW
  refine k_top0 (show (σ3 26 0 0 : Int) = 1 from e261) ?_
  have e262 : σ5 26 0 0 = 2 := by rw [hσ5, ups_eq, e261]; rfl
  have hv2 : Inv 0 0 σ5 := by rw [hσ5]; exact Inv_list hv1 (by omega)
  refine k_iconst hC0 dL_law_41 ?_
  refine k_same hC0 rfl dL_law_42 (tgt := 183) (by decide) ?_
  refine lv_aload_n hx hb dL_law_45 rfl (lv_at hl 0 rfl) ?_
  refine l_w0 (As := [.ref (ad1 0 0)]) (rest := []) hK hA0 hl.1 (w_list hI hfl σ5 (by omega)) (vx_cwSW 1 hts gL_law_L_list rfl rfl rfl (by decide +kernel) ⟨Nat.le_of_ble_eq_true rfl, Nat.le_of_ble_eq_true rfl⟩) hW hS ⟨by show C9 + 1 + 1 + 1 + 1 + 1 ≤ 600312; omega, by show S9 + 6 + 6 + 6 + 6 + 6 ≤ 7292994; omega⟩ rfl rfl (by decide) dL_law_46 (fun H locs hW hS _ _ => ?_)
  obtain ⟨σ7, hσ7⟩ : ∃ z, z = (ups σ5 26 0 0 (σ5 26 0 0 + 1)) := ⟨_, rfl⟩
  rw [← hσ7] at hW
  refine k_top0 (show (σ5 26 0 0 : Int) = 2 from e262) ?_
  have e263 : σ7 26 0 0 = 3 := by rw [hσ7, ups_eq, e262]; rfl
  have hv3 : Inv 0 0 σ7 := by rw [hσ7]; exact Inv_list hv2 (by omega)
  refine k_iconst hC0 dL_law_49 ?_
  refine k_same hC0 rfl dL_law_50 (tgt := 183) (by decide) ?_
  refine lv_aload_n hx hb dL_law_53 rfl (lv_at hl 0 rfl) ?_
  have e27 : σ7 27 0 0 = 0 := by rw [hσ7, ups_t _ (by decide), hσ5, ups_t _ (by decide), hσ3, ups_t _ (by decide)]; rfl
  refine l_w0 (As := [.ref (ad1 0 0)]) (rest := []) hK hA0 hl.1 (w_kiosk hI hfl σ7 (by omega)) (vx_cwSW 1 hts gL_law_L_kiosk rfl rfl rfl (by decide +kernel) ⟨Nat.le_of_ble_eq_true rfl, Nat.le_of_ble_eq_true rfl⟩) hW hS ⟨by show C9 + 1 + 1 + 1 + 1 + 1 + 1 ≤ 600312; omega, by show S9 + 6 + 6 + 6 + 6 + 6 + 6 ≤ 7292994; omega⟩ rfl rfl (by decide) dL_law_54 (fun H locs hW hS _ _ => ?_)
  obtain ⟨σ9, hσ9⟩ : ∃ z, z = (ups σ7 27 0 0 (σ7 27 0 0 + 1)) := ⟨_, rfl⟩
  rw [← hσ9] at hW
  refine k_top0 (show (σ7 27 0 0 : Int) = 0 from e27) ?_
  have eK : σ9 = σK := by rw [hσ9, hσ7, hσ5, hσ3]; rfl
  have hvK : Inv 0 0 σK := by rw [← eK, hσ9]; exact Inv_kiosk hv3 (by omega)
  rw [eK] at hW
  obtain ⟨q26, q27, q28, q12, q13⟩ := R0_first.2.1
  have q6 : σK 6 0 0 = 0 := R0_first.2.2.2.1
  have q15 : σK 15 0 0 = -1 := by rw [σK_o (t := 15) (by decide) (by decide)]; rfl
  have q3 : σK 3 0 0 = 0 := by rw [σK_o (t := 3) (by decide) (by decide)]; rfl
  refine k_if_ne (tgt := 183) hC0 dL_law_57 (by decide) (by omega) (fun c10 => absurd c10 (by omega)) (fun c10 => ?_)
  refine lv_aload_n hx hb dL_law_60 rfl (lv_at hl 0 rfl) ?_
  refine k_iconst hC0 dL_law_61 ?_
  refine k_iconst hC0 dL_law_62 ?_
  refine l_w0 (As := [.ref (ad1 0 0), .int (zi 0), .int (zi 3)]) (rest := []) hK hA0 hl.1 (w_start_y hI hfl σK 0 3 hvK (by omega) (by omega) (by omega)) (vx_cwSW 3 hts gL_law_L_start rfl rfl rfl (by decide +kernel) ⟨Nat.le_of_ble_eq_true rfl, Nat.le_of_ble_eq_true rfl⟩) hW hS ⟨by show C9 + 1 + 1 + 1 + 1 + 1 + 1 + 1 ≤ 600312; omega, by show S9 + 6 + 6 + 6 + 6 + 6 + 6 + 6 ≤ 7292994; omega⟩ rfl rfl (by decide) dL_law_63 (fun H locs hW hS _ _ => ?_)
  refine k_ldc (n := (-900001)) hC0 (by decide) (hts (.constant RL 17 (-900001)) (by decide +kernel)) dL_law_66 ?_
  refine k_same hC0 rfl dL_law_68 (tgt := 183) (by decide) ?_
  refine lv_aload_n hx hb dL_law_71 rfl (lv_at hl 0 rfl) ?_
  refine k_iconst hC0 dL_law_72 ?_
  refine l_w0 (As := [.ref (ad1 0 0), .int (zi 0)]) (rest := []) hK hA0 hl.1 (w_stop_n hI hfl σK 0 hvK (by omega) q6) (vx_cwSW 2 hts gL_law_L_stop rfl rfl rfl (by decide +kernel) ⟨Nat.le_of_ble_eq_true rfl, Nat.le_of_ble_eq_true rfl⟩) hW hS ⟨by show C9 + 1 + 1 + 1 + 1 + 1 + 1 + 1 + 1 ≤ 600312; omega, by show S9 + 6 + 6 + 6 + 6 + 6 + 6 + 6 + 6 ≤ 7292994; omega⟩ rfl rfl (by decide) dL_law_73 (fun H locs hW hS _ _ => ?_)
  refine k_ldc (n := (-900002)) hC0 (by decide) (hts (.constant RL 26 (-900002)) (by decide +kernel)) dL_law_76 ?_
  refine k_same hC0 rfl dL_law_78 (tgt := 183) (by decide) ?_
  refine lv_aload_n hx hb dL_law_81 rfl (lv_at hl 0 rfl) ?_
  refine k_iconst hC0 dL_law_82 ?_
  refine l_w0 (As := [.ref (ad1 0 0), .int (zi 0)]) (rest := []) hK hA0 hl.1 (w_slide_n hI hfl σK 0 hvK (by omega) q15) (vx_cwSW 2 hts gL_law_L_slide rfl rfl rfl (by decide +kernel) ⟨Nat.le_of_ble_eq_true rfl, Nat.le_of_ble_eq_true rfl⟩) hW hS ⟨by show C9 + 1 + 1 + 1 + 1 + 1 + 1 + 1 + 1 + 1 ≤ 600312; omega, by show S9 + 6 + 6 + 6 + 6 + 6 + 6 + 6 + 6 + 6 ≤ 7292994; omega⟩ rfl rfl (by decide) dL_law_83 (fun H locs hW hS _ _ => ?_)
  refine k_ldc (n := (-900002)) hC0 (by decide) (hts (.constant RL 26 (-900002)) (by decide +kernel)) dL_law_86 ?_
  refine k_same hC0 rfl dL_law_88 (tgt := 183) (by decide) ?_
  refine lv_aload_n hx hb dL_law_91 rfl (lv_at hl 0 rfl) ?_
  refine k_iconst hC0 dL_law_92 ?_
  refine l_w0 (As := [.ref (ad1 0 0), .int (zi 0)]) (rest := []) hK hA0 hl.1 (w_next_n hI hfl σK 0 hvK (by omega) q6) (vx_cwSW 2 hts gL_law_L_next rfl rfl rfl (by decide +kernel) ⟨Nat.le_of_ble_eq_true rfl, Nat.le_of_ble_eq_true rfl⟩) hW hS ⟨by show C9 + 1 + 1 + 1 + 1 + 1 + 1 + 1 + 1 + 1 + 1 ≤ 600312; omega, by show S9 + 6 + 6 + 6 + 6 + 6 + 6 + 6 + 6 + 6 + 6 ≤ 7292994; omega⟩ rfl rfl (by decide) dL_law_93 (fun H locs hW hS _ _ => ?_)
  refine k_ldc (n := (-900002)) hC0 (by decide) (hts (.constant RL 26 (-900002)) (by decide +kernel)) dL_law_96 ?_
  refine k_same hC0 rfl dL_law_98 (tgt := 183) (by decide) ?_
  refine lv_aload_n hx hb dL_law_101 rfl (lv_at hl 0 rfl) ?_
  refine k_iconst hC0 dL_law_102 ?_
  refine k_iconst hC0 dL_law_103 ?_
  refine k_bipush hC0 dL_law_104 (by decide) ?_
  refine k_iconst hC0 dL_law_106 ?_
  refine l_w0 (As := [.ref (ad1 0 0), .int (zi 0), .int (zi 1), .int (zi 115), .int (zi 0)]) (rest := []) hK hA0 hl.1 (w_line_y hI hfl σK 0 1 115 0 hvK (by omega) (by omega) (by omega)) (vx_cwSW 5 hts gL_law_L_line rfl rfl rfl (by decide +kernel) ⟨Nat.le_of_ble_eq_true rfl, Nat.le_of_ble_eq_true rfl⟩) hW hS ⟨by show C9 + 1 + 1 + 1 + 1 + 1 + 1 + 1 + 1 + 1 + 1 + 1 ≤ 600312; omega, by show S9 + 6 + 6 + 6 + 6 + 6 + 6 + 6 + 6 + 6 + 6 + 6 ≤ 7292994; omega⟩ rfl rfl (by decide) dL_law_107 (fun H locs hW hS _ _ => ?_)
  refine k_ldc (n := (-900001)) hC0 (by decide) (hts (.constant RL 17 (-900001)) (by decide +kernel)) dL_law_110 ?_
  refine k_same hC0 rfl dL_law_112 (tgt := 183) (by decide) ?_
  refine lv_aload_n hx hb dL_law_115 rfl (lv_at hl 0 rfl) ?_
  refine k_iconst hC0 dL_law_116 ?_
  refine k_iconst hC0 dL_law_117 ?_
  refine k_bipush hC0 dL_law_118 (by decide) ?_
  refine k_iconst hC0 dL_law_120 ?_
  refine l_w0 (As := [.ref (ad1 0 0), .int (zi 0), .int (zi 0), .int (zi 113), .int (zi 0)]) (rest := []) hK hA0 hl.1 (w_line_k hI hfl σK 0 0 113 0 hvK (by omega) (by omega) (by omega) (by decide)) (vx_cwSW 5 hts gL_law_L_line rfl rfl rfl (by decide +kernel) ⟨Nat.le_of_ble_eq_true rfl, Nat.le_of_ble_eq_true rfl⟩) hW hS ⟨by show C9 + 1 + 1 + 1 + 1 + 1 + 1 + 1 + 1 + 1 + 1 + 1 + 1 ≤ 600312; omega, by show S9 + 6 + 6 + 6 + 6 + 6 + 6 + 6 + 6 + 6 + 6 + 6 + 6 ≤ 7292994; omega⟩ rfl rfl (by decide) dL_law_121 (fun H locs hW hS _ _ => ?_)
  refine k_ldc (n := (-900002)) hC0 (by decide) (hts (.constant RL 26 (-900002)) (by decide +kernel)) dL_law_124 ?_
  refine k_same hC0 rfl dL_law_126 (tgt := 183) (by decide) ?_
  refine lv_aload_n hx hb dL_law_129 rfl (lv_at hl 0 rfl) ?_
  refine k_iconst hC0 dL_law_130 ?_
  refine k_iconst hC0 dL_law_131 ?_
  refine k_bipush hC0 dL_law_132 (by decide) ?_
  refine k_iconst hC0 dL_law_134 ?_
  refine l_w0 (As := [.ref (ad1 0 0), .int (zi 0), .int (zi 0), .int (zi 119), .int (zi 0)]) (rest := []) hK hA0 hl.1 (w_line_n hI hfl σK 0 0 119 0 hvK (by omega) (by omega) (by omega) (by decide) (by decide) (by omega)) (vx_cwSW 5 hts gL_law_L_line rfl rfl rfl (by decide +kernel) ⟨Nat.le_of_ble_eq_true rfl, Nat.le_of_ble_eq_true rfl⟩) hW hS ⟨by show C9 + 1 + 1 + 1 + 1 + 1 + 1 + 1 + 1 + 1 + 1 + 1 + 1 + 1 ≤ 600312; omega, by show S9 + 6 + 6 + 6 + 6 + 6 + 6 + 6 + 6 + 6 + 6 + 6 + 6 + 6 ≤ 7292994; omega⟩ rfl rfl (by decide) dL_law_135 (fun H locs hW hS _ _ => ?_)
  refine k_ldc (n := (-900002)) hC0 (by decide) (hts (.constant RL 26 (-900002)) (by decide +kernel)) dL_law_138 ?_
  refine k_same hC0 rfl dL_law_140 (tgt := 183) (by decide) ?_
  refine lv_aload_n hx hb dL_law_143 rfl (lv_at hl 0 rfl) ?_
  refine k_iconst hC0 dL_law_144 ?_
  refine k_iconst hC0 dL_law_145 ?_
  refine k_bipush hC0 dL_law_146 (by decide) ?_
  refine k_bipush hC0 dL_law_148 (by decide) ?_
  refine l_w0 (As := [.ref (ad1 0 0), .int (zi 0), .int (zi 0), .int (zi 112), .int (zi 8)]) (rest := []) hK hA0 hl.1 (w_line_n hI hfl σK 0 0 112 8 hvK (by omega) (by omega) (by omega) (by decide) (by decide) (by omega)) (vx_cwSW 5 hts gL_law_L_line rfl rfl rfl (by decide +kernel) ⟨Nat.le_of_ble_eq_true rfl, Nat.le_of_ble_eq_true rfl⟩) hW hS ⟨by show C9 + 1 + 1 + 1 + 1 + 1 + 1 + 1 + 1 + 1 + 1 + 1 + 1 + 1 + 1 ≤ 600312; omega, by show S9 + 6 + 6 + 6 + 6 + 6 + 6 + 6 + 6 + 6 + 6 + 6 + 6 + 6 + 6 ≤ 7292994; omega⟩ rfl rfl (by decide) dL_law_150 (fun H locs hW hS _ _ => ?_)
  refine k_ldc (n := (-900002)) hC0 (by decide) (hts (.constant RL 26 (-900002)) (by decide +kernel)) dL_law_153 ?_
  refine k_same hC0 rfl dL_law_155 (tgt := 183) (by decide) ?_
  refine lv_aload_n hx hb dL_law_158 rfl (lv_at hl 0 rfl) ?_
  refine k_iconst hC0 dL_law_159 ?_
  refine l_w0 (As := [.ref (ad1 0 0), .int (zi 0)]) (rest := []) hK hA0 hl.1 (w_tick_x hI hfl σK 0 (by omega) (by omega)) (vx_cwSW 2 hts gL_law_L_tick rfl rfl rfl (by decide +kernel) ⟨Nat.le_of_ble_eq_true rfl, Nat.le_of_ble_eq_true rfl⟩) hW hS ⟨by show C9 + 1 + 1 + 1 + 1 + 1 + 1 + 1 + 1 + 1 + 1 + 1 + 1 + 1 + 1 + 1 ≤ 600312; omega, by show S9 + 6 + 6 + 6 + 6 + 6 + 6 + 6 + 6 + 6 + 6 + 6 + 6 + 6 + 6 + 6 ≤ 7292994; omega⟩ rfl rfl (by decide) dL_law_160 (fun H locs hW hS _ _ => ?_)
  refine k_ldc (n := (-900001)) hC0 (by decide) (hts (.constant RL 17 (-900001)) (by decide +kernel)) dL_law_163 ?_
  refine k_same hC0 rfl dL_law_165 (tgt := 183) (by decide) ?_
  refine lv_aload_n hx hb dL_law_168 rfl (lv_at hl 0 rfl) ?_
  refine k_bipush hC0 dL_law_169 (by decide) ?_
  refine l_w0 (As := [.ref (ad1 0 0), .int (zi 51)]) (rest := []) hK hA0 hl.1 (w_tick_x hI hfl σK 51 (by omega) (by omega)) (vx_cwSW 2 hts gL_law_L_tick rfl rfl rfl (by decide +kernel) ⟨Nat.le_of_ble_eq_true rfl, Nat.le_of_ble_eq_true rfl⟩) hW hS ⟨by show C9 + 1 + 1 + 1 + 1 + 1 + 1 + 1 + 1 + 1 + 1 + 1 + 1 + 1 + 1 + 1 + 1 ≤ 600312; omega, by show S9 + 6 + 6 + 6 + 6 + 6 + 6 + 6 + 6 + 6 + 6 + 6 + 6 + 6 + 6 + 6 + 6 ≤ 7292994; omega⟩ rfl rfl (by decide) dL_law_171 (fun H locs hW hS _ _ => ?_)
  refine k_ldc (n := (-900001)) hC0 (by decide) (hts (.constant RL 17 (-900001)) (by decide +kernel)) dL_law_174 ?_
  refine k_same hC0 rfl dL_law_176 (tgt := 183) (by decide) ?_
  refine k_iconst hC0 dL_law_179 ?_
  refine lv_goto (tgt := 184) hx hb dL_law_180 (by decide) ?_
  refine lv_istore_n (lv' := [(2, .int (zi 1)), (1, .ref (ad1 0 0)), (0, .ref b)]) hx hb dL_law_184 rfl hl (by decide) rfl (fun ls hl => ?_)
  exact kk H locs ls hW hS hl
end L31C
