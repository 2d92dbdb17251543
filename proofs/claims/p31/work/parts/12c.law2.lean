section L31B
theorem okL_most {k n : Int} (h : okL k n) : (0 ≤ k ∧ k < 65536) ∧ mostN k ≠ -1 ∧ leastN k ≤ n ∧ n ≤ mostN k := by
  unfold okL at h
  rcases h with ⟨rfl, h0, h1⟩ | ⟨rfl, h0, h1⟩ | ⟨rfl | rfl, h0, h1⟩ | ⟨rfl | rfl | rfl, h0, h1⟩ | ⟨rfl, h0, h1⟩ | ⟨rfl, h0, h1⟩ <;> exact ⟨by decide, by decide, h0, h1⟩
set_option maxHeartbeats 4000000 in
set_option maxRecDepth 100000 in
theorem lt_start {p : Program} {l : Launch} {e : Env} {s : State} {m : MethodId} {below : List Frame} {meth : Method} {c : Code} {H : Heap} {locs : List Loc} {ls : Array Slot} {Dg : va_G} {cA : Nat → ClassId} {ad1 ad2 : Nat → Int → Nat} {oc : Nat → Nat} {b L a av : Nat} {xs : Nat → Int32} (hK : LK p l c s m meth b L xs Dg cA oc a av) (hA : LA ad1 ad2 s.heap.size) {N M k la : Int} {σ τ : St} {C9 S9 : Nat} (hk6 : k = 6) (ha : 0 ≤ la ∧ la < 3) (hv : Inv N M σ) (hr0 : R0 σ τ) (hcs : C9 + 40 ≤ 600312 ∧ S9 + 240 ≤ 7292994) (hW : WP Dg ccnt ad1 (cE cA ad1 σ) H) (hN : WP Dg ncnt ad2 (nE cA ad2 τ) H) (hS : va_S (NA s.heap.size) s.heap H locs) (hl : lv_has ls 13 [(8, .int (zi (σ 3 la 0))), (7, .int (zi la)), (6, .int (zi (8 * k))), (5, .int (zi k)), (4, .ref (ad2 21 0)), (3, .ref (ad2 20 0)), (2, .int (zi 1)), (1, .ref (ad1 0 0)), (0, .ref b)]) (kk : (∀ (σ1 : St) (τ1 : St) (H : Heap) (locs : List Loc) (ls : Array Slot), (Inv N M σ1) → (RA k σ1 τ1) → (σ1 29 0 0 = σ 29 0 0) → WP Dg ccnt ad1 (cE cA ad1 σ1) H → WP Dg ncnt ad2 (nE cA ad2 τ1) H → va_S (NA s.heap.size) s.heap H locs → lv_has ls 13 [(7, .int (zi la)), (6, .int (zi (8 * k))), (5, .int (zi k)), (4, .ref (ad2 21 0)), (3, .ref (ad2 20 0)), (2, .int (zi 1)), (1, .ref (ad1 0 0)), (0, .ref b)] → W p l e room_1 s m #[Value.ref b] below meth c H locs (C9 + 5) (S9 + 30) (lw_Z below #[Value.ref b] s) (F0 m 790 ls []))) : W p l e room_1 s m #[Value.ref b] below meth c H locs C9 S9 (lw_Z below #[Value.ref b] s) (F0 m 245 ls []) := by
  have hI : WI ccnt ad1 := hA.1.1
  have hI2 : WI ncnt ad2 := hA.2.1.1
  have hfl := hK.2.2.2.2.1
  have hC0 := hK.1.1
  have hx := hC0.1
  have hb := hC0.2.1
  have hts := hC0.2.2.2.1
  obtain ⟨q26, q27, q28, q12, q13⟩ := hr0.2.1
  refine lv_aload_n hx hb dL_law_245 rfl (lv_at hl 7 rfl) ?_
  refine k_iconst hC0 dL_law_246 ?_
  refine lv_iload hx hb dL_law_247 (lv_at hl 1 rfl) ?_
  refine l_w (As := [.ref (ad1 0 0), .int (zi 0), .int (zi la)]) (rest := []) hK hA hl.1 (w_start hI hfl σ 0 la hv (by omega) (by omega) hr0.2.2.2.1) (vx_cwSW 3 hts gL_law_L_start rfl rfl rfl (by decide +kernel) ⟨Nat.le_of_ble_eq_true rfl, Nat.le_of_ble_eq_true rfl⟩) hW hN hS ⟨by show C9 + 1 ≤ 600312; omega, by show S9 + 6 ≤ 7292994; omega⟩ rfl rfl (by decide) dL_law_249 (fun H locs hW hN hS => ?_)
  obtain ⟨σ1, hσ1⟩ : ∃ z, z = (fStart σ 0 la) := ⟨_, rfl⟩
  rw [← hσ1] at hW
  refine k_top0 (show (fStart σ 0 la 8 0 0 : Int) = 0 from (R1_start hr0 ha).2) ?_
  have hs1 : R1 σ1 (ups (nCopy τ la 1000) 41 0 0 1) := by rw [hσ1]; exact (R1_start hr0 ha).1
  have hv1 : Inv N M σ1 := by rw [hσ1]; exact Inv_fStart hv (by decide) ⟨by omega, by omega⟩ (by omega) hr0.2.2.2.1
  obtain ⟨z26, z27, z28, z12, z13⟩ := hs1.2.2.2.1
  obtain ⟨z6, z8, z11, z17, z16⟩ := hs1.2.2.2.2.2
  refine k_if_ne (tgt := 299) hC0 dL_law_252 (by decide) (by omega) (fun c2 => absurd c2 (by omega)) (fun c2 => ?_)
  refine lv_aload_n hx hb dL_law_255 rfl (lv_at hl 7 rfl) ?_
  refine k_iconst hC0 dL_law_256 ?_
  refine lv_iload hx hb dL_law_257 (lv_at hl 1 rfl) ?_
  refine l_w (As := [.ref (ad1 0 0), .int (zi 0), .int (zi la)]) (rest := []) hK hA hl.1 (w_start_s hI hfl σ1 0 la hv1 (by omega) (by omega) z6) (vx_cwSW 3 hts gL_law_L_start rfl rfl rfl (by decide +kernel) ⟨Nat.le_of_ble_eq_true rfl, Nat.le_of_ble_eq_true rfl⟩) hW hN hS ⟨by show C9 + 1 + 1 ≤ 600312; omega, by show S9 + 6 + 6 ≤ 7292994; omega⟩ rfl rfl (by decide) dL_law_259 (fun H locs hW hN hS => ?_)
  refine k_ldc (n := (-900002)) hC0 (by decide) (hts (.constant RL 26 (-900002)) (by decide +kernel)) dL_law_262 ?_
  refine k_same hC0 rfl dL_law_264 (tgt := 299) (by decide) ?_
  refine lv_aload_n hx hb dL_law_267 rfl (lv_at hl 7 rfl) ?_
  refine k_iconst hC0 dL_law_268 ?_
  refine l_w (As := [.ref (ad1 0 0), .int (zi 0)]) (rest := []) hK hA hl.1 (w_plays hI hfl σ1 0 hv1 (by omega) z6) (vx_cwSW 2 hts gL_law_L_plays rfl rfl rfl (by decide +kernel) ⟨Nat.le_of_ble_eq_true rfl, Nat.le_of_ble_eq_true rfl⟩) hW hN hS ⟨by show C9 + 1 + 1 + 1 ≤ 600312; omega, by show S9 + 6 + 6 + 6 ≤ 7292994; omega⟩ rfl rfl (by decide) dL_law_269 (fun H locs hW hN hS => ?_)
  refine k_top0 (show (σ1 8 0 0 : Int) = 0 from z8) ?_
  refine k_if_ne (tgt := 299) hC0 dL_law_272 (by decide) (by omega) (fun c4 => absurd c4 (by omega)) (fun c4 => ?_)
  refine lv_aload_n hx hb dL_law_275 rfl (lv_at hl 7 rfl) ?_
  refine k_iconst hC0 dL_law_276 ?_
  refine k_iconst hC0 dL_law_277 ?_
  refine l_w (As := [.ref (ad1 0 0), .int (zi 0), .int (zi 0)]) (rest := []) hK hA hl.1 (w_playerAt hI hfl σ1 0 0 hv1 (by omega) (by omega)) (vx_cwSW 3 hts gL_law_L_playerAt rfl rfl rfl (by decide +kernel) ⟨Nat.le_of_ble_eq_true rfl, Nat.le_of_ble_eq_true rfl⟩) hW hN hS ⟨by show C9 + 1 + 1 + 1 + 1 ≤ 600312; omega, by show S9 + 6 + 6 + 6 + 6 ≤ 7292994; omega⟩ rfl rfl (by decide) dL_law_278 (fun H locs hW hN hS => ?_)
  refine k_top0 (show (σ1 16 0 0 : Int) = 0 from z16) ?_
  refine k_if_ne (tgt := 299) hC0 dL_law_281 (by decide) (by omega) (fun c5 => absurd c5 (by omega)) (fun c5 => ?_)
  refine lv_aload_n hx hb dL_law_284 rfl (lv_at hl 7 rfl) ?_
  refine k_iconst hC0 dL_law_285 ?_
  refine k_iconst hC0 dL_law_286 ?_
  refine l_w (As := [.ref (ad1 0 0), .int (zi 0), .int (zi 1)]) (rest := []) hK hA hl.1 (w_playerAt_n hI hfl σ1 0 1 hv1 (by omega) (by omega) (by omega)) (vx_cwSW 3 hts gL_law_L_playerAt rfl rfl rfl (by decide +kernel) ⟨Nat.le_of_ble_eq_true rfl, Nat.le_of_ble_eq_true rfl⟩) hW hN hS ⟨by show C9 + 1 + 1 + 1 + 1 + 1 ≤ 600312; omega, by show S9 + 6 + 6 + 6 + 6 + 6 ≤ 7292994; omega⟩ rfl rfl (by decide) dL_law_287 (fun H locs hW hN hS => ?_)
  refine k_ldc (n := (-900002)) hC0 (by decide) (hts (.constant RL 26 (-900002)) (by decide +kernel)) dL_law_290 ?_
  refine k_same hC0 rfl dL_law_292 (tgt := 299) (by decide) ?_
  refine k_iconst hC0 dL_law_295 ?_
  refine lv_goto (tgt := 300) hx hb dL_law_296 (by decide) ?_
  refine lv_istore_n (lv' := [(2, .int (zi 1)), (8, .int (zi (σ 3 la 0))), (7, .int (zi la)), (6, .int (zi (8 * k))), (5, .int (zi k)), (4, .ref (ad2 21 0)), (3, .ref (ad2 20 0)), (1, .ref (ad1 0 0)), (0, .ref b)]) hx hb dL_law_300 rfl hl (by decide) rfl (fun ls hl => ?_)
  refine lv_aload_n hx hb dL_law_301 rfl (lv_at hl 6 rfl) ?_
  refine k_bipush hC0 dL_law_302 (by decide) ?_
  refine lv_iload hx hb dL_law_304 (lv_at hl 2 rfl) ?_
  refine k_imul hC0 dL_law_306 ?_
  refine k_sipush hC0 dL_law_307 (by decide) ?_
  refine l_nV (As := [.ref (ad2 20 0), .int (zi (50 * la)), .int (zi 1000)]) (rest := []) hK hA hl.1 (n_copy hI2 τ la 1000 (by omega) (by omega)) (cwS 3 hts gL_law_L_copy rfl rfl rfl (by decide +kernel) ⟨Nat.le_of_ble_eq_true rfl, Nat.le_of_ble_eq_true rfl⟩) hW hN hS ⟨by show C9 + 1 + 1 + 1 + 1 + 1 ≤ 600312; omega, by show S9 + 6 + 6 + 6 + 6 + 6 ≤ 7292994; omega⟩ rfl rfl (by decide) dL_law_310 (fun H locs hW hN hS => ?_)
  obtain ⟨τ7, hτ7⟩ : ∃ z, z = nCopy τ la 1000 := ⟨_, rfl⟩
  rw [← hτ7] at hN
  refine lv_aload hx hb dL_law_313 (lv_at hl 5 rfl) ?_
  refine k_iconst hC0 dL_law_315 ?_
  refine k_iconst hC0 dL_law_316 ?_
  refine lw_h hK hA hW hN hS (by omega) dL_law_317 (fun H locs hW hN hS => ?_)
  obtain ⟨τ8, hτ8⟩ : ∃ z, z = ups τ7 41 0 0 1 := ⟨_, rfl⟩
  rw [← hτ8] at hN
  refine lv_goto (tgt := 790) hx hb dL_law_318 (by decide) ?_
  refine W.widen (k := C9 + 5) (n := S9 + 30) (by omega) (by omega) ?_
  exact kk σ1 τ8 H locs ls hv1 (Or.inr ⟨by omega, by rw [hτ8, hτ7]; exact hs1⟩) (by rw [hσ1, fStart, at1 (fCome_T _ _ _) (t := 29) (by decide), at1 (fBegin_T _ _ _) (t := 29) (by decide)]) hW hN hS (lv_sub hl [2, 3, 4, 5, 6, 0, 7, 8] rfl)

set_option maxHeartbeats 4000000 in
set_option maxRecDepth 100000 in
theorem lt_ins2 {p : Program} {l : Launch} {e : Env} {s : State} {m : MethodId} {below : List Frame} {meth : Method} {c : Code} {H : Heap} {locs : List Loc} {ls : Array Slot} {Dg : va_G} {cA : Nat → ClassId} {ad1 ad2 : Nat → Int → Nat} {oc : Nat → Nat} {b L a av : Nat} {xs : Nat → Int32} (hK : LK p l c s m meth b L xs Dg cA oc a av) (hA : LA ad1 ad2 s.heap.size) {N M k la x kc nn : Int} {σ τ : St} {C9 S9 : Nat} (hk : 0 ≤ k ∧ k < 40) (ha : 0 ≤ la ∧ la < 3) (hv : Inv N M σ) (hr : RA k σ τ) (hx9 : 0 ≤ x ∧ x ≤ σ 3 la 0) (hok : okL kc nn) (hcs : C9 + 40 ≤ 600312 ∧ S9 + 240 ≤ 7292994) (hW : WP Dg ccnt ad1 (cE cA ad1 σ) H) (hN : WP Dg ncnt ad2 (nE cA ad2 τ) H) (hS : va_S (NA s.heap.size) s.heap H locs) (hl : lv_has ls 13 [(10, .int (zi kc)), (9, .int (zi x)), (8, .int (zi (σ 3 la 0))), (7, .int (zi la)), (6, .int (zi (8 * k))), (5, .int (zi k)), (4, .ref (ad2 21 0)), (3, .ref (ad2 20 0)), (2, .int (zi 1)), (1, .ref (ad1 0 0)), (0, .ref b)]) (kk : (∀ (σ1 : St) (τ1 : St) (H : Heap) (locs : List Loc) (ls : Array Slot), (Inv N M σ1) → (RA k σ1 τ1) → (σ1 29 0 0 = σ 29 0 0) → WP Dg ccnt ad1 (cE cA ad1 σ1) H → WP Dg ncnt ad2 (nE cA ad2 τ1) H → va_S (NA s.heap.size) s.heap H locs → lv_has ls 13 [(7, .int (zi la)), (6, .int (zi (8 * k))), (5, .int (zi k)), (4, .ref (ad2 21 0)), (3, .ref (ad2 20 0)), (2, .int (zi 1)), (1, .ref (ad1 0 0)), (0, .ref b)] → W p l e room_1 s m #[Value.ref b] below meth c H locs (C9 + 5) (S9 + 30) (lw_Z below #[Value.ref b] s) (F0 m 790 ls []))) : W p l e room_1 s m #[Value.ref b] below meth c H locs C9 S9 (lw_Z below #[Value.ref b] s) (F0 m 461 ls [.int (zi nn)]) := by
  have hI : WI ccnt ad1 := hA.1.1
  have hI2 : WI ncnt ad2 := hA.2.1.1
  have hfl := hK.2.2.2.2.1
  have hC0 := hK.1.1
  have hx := hC0.1
  have hb := hC0.2.1
  have hts := hC0.2.2.2.1
  obtain ⟨q26, q27, q28, q12, q13⟩ := hr.Q
  obtain ⟨m0, m1, m2⟩ := hr.L la ha.1 ha.2
  obtain ⟨o1, o2, o3⟩ := okL_most hok
  refine lv_istore (lv' := [(11, .int (zi nn)), (10, .int (zi kc)), (9, .int (zi x)), (8, .int (zi (σ 3 la 0))), (7, .int (zi la)), (6, .int (zi (8 * k))), (5, .int (zi k)), (4, .ref (ad2 21 0)), (3, .ref (ad2 20 0)), (2, .int (zi 1)), (1, .ref (ad1 0 0)), (0, .ref b)]) hx hb dL_law_461 hl (by decide) rfl (fun ls hl => ?_)
  refine lv_iload hx hb dL_law_463 (lv_at hl 3 rfl) ?_
  refine k_bipush hC0 dL_law_465 (by decide) ?_
  refine k_icmp_ne (tgt := 496) hC0 dL_law_467 (by decide) (by omega) (fun c1 => ?_) (fun c1 => ?_)
  · refine lv_iload hx hb dL_law_496 (lv_at hl 3 rfl) ?_
    refine lv_istore (lv' := [(12, .int (zi (σ 3 la 0))), (11, .int (zi nn)), (10, .int (zi kc)), (9, .int (zi x)), (8, .int (zi (σ 3 la 0))), (7, .int (zi la)), (6, .int (zi (8 * k))), (5, .int (zi k)), (4, .ref (ad2 21 0)), (3, .ref (ad2 20 0)), (2, .int (zi 1)), (1, .ref (ad1 0 0)), (0, .ref b)]) hx hb dL_law_498 hl (by decide) rfl (fun ls hl => ?_)
    have loop_500 : ∀ (fuel : Nat) (j : Int), j - x < (fuel : Int) → (x ≤ j ∧ j ≤ σ 3 la 0) → ∀ (H : Heap) (locs : List Loc), WP Dg ccnt ad1 (cE cA ad1 σ) H → WP Dg ncnt ad2 (nE cA ad2 (nInP τ la (σ 3 la 0) j)) H → va_S (NA s.heap.size) s.heap H locs → ∀ ls : Array Slot, lv_has ls 13 [(12, .int (zi j)), (11, .int (zi nn)), (10, .int (zi kc)), (9, .int (zi x)), (8, .int (zi (σ 3 la 0))), (7, .int (zi la)), (6, .int (zi (8 * k))), (5, .int (zi k)), (4, .ref (ad2 21 0)), (3, .ref (ad2 20 0)), (2, .int (zi 1)), (1, .ref (ad1 0 0)), (0, .ref b)] → W p l e room_1 s m #[Value.ref b] below meth c H locs C9 S9 (lw_Z below #[Value.ref b] s) (F0 m 500 ls []) := by
      intro fuel
      induction fuel with
      | zero => intro j hn i1; exact absurd hn (by omega)
      | succ fuel ih_500 =>
        intro j hn i1 H locs hW hN hS ls hl
        obtain ⟨τ2, hτ2⟩ : ∃ z, z = nInP τ la (σ 3 la 0) j := ⟨_, rfl⟩
        rw [← hτ2] at hN
        refine lv_iload hx hb dL_law_500 (lv_at hl 0 rfl) ?_
        refine lv_iload hx hb dL_law_502 (lv_at hl 3 rfl) ?_
        refine k_icmp_le (tgt := 567) hC0 dL_law_504 (by decide) (by omega) (fun c3 => ?_) (fun c3 => ?_)
        · refine lv_aload_n hx hb dL_law_567 rfl (lv_at hl 9 rfl) ?_
          refine k_bipush hC0 dL_law_568 (by decide) ?_
          refine lv_iload hx hb dL_law_570 (lv_at hl 5 rfl) ?_
          refine k_imul hC0 dL_law_572 ?_
          refine k_iconst hC0 dL_law_573 ?_
          refine k_iadd hC0 dL_law_574 ?_
          refine k_iconst hC0 dL_law_575 ?_
          refine lv_iload hx hb dL_law_576 (lv_at hl 3 rfl) ?_
          refine k_imul hC0 dL_law_578 ?_
          refine k_iadd hC0 dL_law_579 ?_
          refine lv_iload hx hb dL_law_580 (lv_at hl 2 rfl) ?_
          refine lw_net hK hA hW hN hS (by omega) dL_law_582 (fun H locs hW hN hS => ?_)
          obtain ⟨τ4, hτ4⟩ : ∃ z, z = ups τ2 40 (((50 * la) + 1) + (2 * x)) 0 kc := ⟨_, rfl⟩
          rw [← hτ4] at hN
          refine lv_aload_n hx hb dL_law_583 rfl (lv_at hl 9 rfl) ?_
          refine k_bipush hC0 dL_law_584 (by decide) ?_
          refine lv_iload hx hb dL_law_586 (lv_at hl 5 rfl) ?_
          refine k_imul hC0 dL_law_588 ?_
          refine k_iconst hC0 dL_law_589 ?_
          refine k_iadd hC0 dL_law_590 ?_
          refine k_iconst hC0 dL_law_591 ?_
          refine lv_iload hx hb dL_law_592 (lv_at hl 3 rfl) ?_
          refine k_imul hC0 dL_law_594 ?_
          refine k_iadd hC0 dL_law_595 ?_
          refine lv_iload hx hb dL_law_596 (lv_at hl 1 rfl) ?_
          refine lw_net hK hA hW hN hS (by omega) dL_law_598 (fun H locs hW hN hS => ?_)
          obtain ⟨τ5, hτ5⟩ : ∃ z, z = ups τ4 40 (((50 * la) + 2) + (2 * x)) 0 nn := ⟨_, rfl⟩
          rw [← hτ5] at hN
          refine lv_aload_n hx hb dL_law_599 rfl (lv_at hl 9 rfl) ?_
          refine k_bipush hC0 dL_law_600 (by decide) ?_
          refine lv_iload hx hb dL_law_602 (lv_at hl 5 rfl) ?_
          refine k_imul hC0 dL_law_604 ?_
          refine lv_dup2_11 hx hb dL_law_605 rfl rfl ?_
          refine lr_net (v := σ 3 la 0) hK hA hN (by omega) (by rw [hτ5, ups_i _ _ _ (by omega), hτ4, ups_i _ _ _ (by omega), hτ2, nInP_rd _ (by omega)]; exact m1) dL_law_606 ?_
          refine k_iconst hC0 dL_law_607 ?_
          refine k_iadd hC0 dL_law_608 ?_
          refine lw_net hK hA hW hN hS (by omega) dL_law_609 (fun H locs hW hN hS => ?_)
          obtain ⟨τ6, hτ6⟩ : ∃ z, z = ups τ5 40 (50 * la) 0 ((σ 3 la 0) + 1) := ⟨_, rfl⟩
          rw [← hτ6] at hN
          refine lv_aload_n hx hb dL_law_610 rfl (lv_at hl 11 rfl) ?_
          refine lv_iload hx hb dL_law_611 (lv_at hl 5 rfl) ?_
          refine lv_iload hx hb dL_law_613 (lv_at hl 3 rfl) ?_
          refine lv_iload hx hb dL_law_615 (lv_at hl 2 rfl) ?_
          refine lv_iload hx hb dL_law_617 (lv_at hl 1 rfl) ?_
          refine l_w (As := [.ref (ad1 0 0), .int (zi la), .int (zi x), .int (zi kc), .int (zi nn)]) (rest := []) hK hA hl.1 (w_line hI hfl σ la x kc nn hv (by omega) (by omega) o1 o2 o3 (by omega)) (vx_cwSW 5 hts gL_law_L_line rfl rfl rfl (by decide +kernel) ⟨Nat.le_of_ble_eq_true rfl, Nat.le_of_ble_eq_true rfl⟩) hW hN hS ⟨by show C9 + 1 ≤ 600312; omega, by show S9 + 6 ≤ 7292994; omega⟩ rfl rfl (by decide) dL_law_619 (fun H locs hW hN hS => ?_)
          obtain ⟨σ7, hσ7⟩ : ∃ z, z = (fIns σ la x kc nn) := ⟨_, rfl⟩
          rw [← hσ7] at hW
          refine lv_iload hx hb dL_law_622 (lv_at hl 4 rfl) ?_
          refine k_iconst hC0 dL_law_624 ?_
          refine k_iadd hC0 dL_law_625 ?_
          refine k_same hC0 rfl dL_law_626 (tgt := 633) (by decide) ?_
          refine k_iconst hC0 dL_law_629 ?_
          refine lv_goto (tgt := 634) hx hb dL_law_630 (by decide) ?_
          refine lv_istore_n (lv' := [(2, .int (zi 1)), (12, .int (zi j)), (11, .int (zi nn)), (10, .int (zi kc)), (9, .int (zi x)), (8, .int (zi (σ 3 la 0))), (7, .int (zi la)), (6, .int (zi (8 * k))), (5, .int (zi k)), (4, .ref (ad2 21 0)), (3, .ref (ad2 20 0)), (1, .ref (ad1 0 0)), (0, .ref b)]) hx hb dL_law_634 rfl hl (by decide) rfl (fun ls hl => ?_)
          refine lv_goto (tgt := 790) hx hb dL_law_635 (by decide) ?_
          have em : j = x := by omega
          have eN : τ6 = nIns τ la (σ 3 la 0) x kc nn := by rw [hτ6, hτ5, hτ4, hτ2, em]; rfl
          refine W.widen (k := C9 + 5) (n := S9 + 30) (by omega) (by omega) ?_
          exact kk σ7 τ6 H locs ls (by rw [hσ7]; exact Inv_fIns hv (by omega) (by omega) o1 hok (by omega)) (by rw [hσ7, eN]; exact RA_ins hr ha hx9 (by omega)) (by rw [hσ7, at1 (fIns_T _ _ _ _ _) (t := 29) (by decide)]) hW hN hS (lv_sub hl [6, 7, 8, 9, 10, 0, 11, 12] rfl)
        · refine lv_aload_n hx hb dL_law_507 rfl (lv_at hl 9 rfl) ?_
          refine k_bipush hC0 dL_law_508 (by decide) ?_
          refine lv_iload hx hb dL_law_510 (lv_at hl 5 rfl) ?_
          refine k_imul hC0 dL_law_512 ?_
          refine k_iconst hC0 dL_law_513 ?_
          refine k_iadd hC0 dL_law_514 ?_
          refine k_iconst hC0 dL_law_515 ?_
          refine lv_iload hx hb dL_law_516 (lv_at hl 0 rfl) ?_
          refine k_imul hC0 dL_law_518 ?_
          refine k_iadd hC0 dL_law_519 ?_
          refine lv_aload_n hx hb dL_law_520 rfl (lv_at hl 9 rfl) ?_
          refine k_bipush hC0 dL_law_521 (by decide) ?_
          refine lv_iload hx hb dL_law_523 (lv_at hl 5 rfl) ?_
          refine k_imul hC0 dL_law_525 ?_
          refine k_iconst hC0 dL_law_526 ?_
          refine k_isub hC0 dL_law_527 ?_
          refine k_iconst hC0 dL_law_528 ?_
          refine lv_iload hx hb dL_law_529 (lv_at hl 0 rfl) ?_
          refine k_imul hC0 dL_law_531 ?_
          refine k_iadd hC0 dL_law_532 ?_
          refine lr_net (v := τ 40 (50 * la - 1 + 2 * j) 0) hK hA hN (by omega) (by rw [hτ2, nInP_rd _ (by omega)]) dL_law_533 ?_
          refine lw_net hK hA hW hN hS (by omega) dL_law_534 (fun H locs hW hN hS => ?_)
          obtain ⟨τ9, hτ9⟩ : ∃ z, z = ups τ2 40 (((50 * la) + 1) + (2 * j)) 0 (τ 40 (50 * la - 1 + 2 * j) 0) := ⟨_, rfl⟩
          rw [← hτ9] at hN
          refine lv_aload_n hx hb dL_law_535 rfl (lv_at hl 9 rfl) ?_
          refine k_bipush hC0 dL_law_536 (by decide) ?_
          refine lv_iload hx hb dL_law_538 (lv_at hl 5 rfl) ?_
          refine k_imul hC0 dL_law_540 ?_
          refine k_iconst hC0 dL_law_541 ?_
          refine k_iadd hC0 dL_law_542 ?_
          refine k_iconst hC0 dL_law_543 ?_
          refine lv_iload hx hb dL_law_544 (lv_at hl 0 rfl) ?_
          refine k_imul hC0 dL_law_546 ?_
          refine k_iadd hC0 dL_law_547 ?_
          refine lv_aload_n hx hb dL_law_548 rfl (lv_at hl 9 rfl) ?_
          refine k_bipush hC0 dL_law_549 (by decide) ?_
          refine lv_iload hx hb dL_law_551 (lv_at hl 5 rfl) ?_
          refine k_imul hC0 dL_law_553 ?_
          refine k_iconst hC0 dL_law_554 ?_
          refine lv_iload hx hb dL_law_555 (lv_at hl 0 rfl) ?_
          refine k_imul hC0 dL_law_557 ?_
          refine k_iadd hC0 dL_law_558 ?_
          refine lr_net (v := τ 40 (50 * la + 2 * j) 0) hK hA hN (by omega) (by rw [hτ9, ups_i _ _ _ (by omega), hτ2, nInP_rd _ (by omega)]) dL_law_559 ?_
          refine lw_net hK hA hW hN hS (by omega) dL_law_560 (fun H locs hW hN hS => ?_)
          obtain ⟨τ10, hτ10⟩ : ∃ z, z = ups τ9 40 (((50 * la) + 2) + (2 * j)) 0 (τ 40 (50 * la + 2 * j) 0) := ⟨_, rfl⟩
          rw [← hτ10] at hN
          refine k_iinc (a := j) (lv' := [(12, .int (zi (j + (-1)))), (11, .int (zi nn)), (10, .int (zi kc)), (9, .int (zi x)), (8, .int (zi (σ 3 la 0))), (7, .int (zi la)), (6, .int (zi (8 * k))), (5, .int (zi k)), (4, .ref (ad2 21 0)), (3, .ref (ad2 20 0)), (2, .int (zi 1)), (1, .ref (ad1 0 0)), (0, .ref b)]) hC0 dL_law_561 hl (k := 0) rfl (by decide) rfl (fun ls hl => ?_)
          refine lv_goto (tgt := 500) hx hb dL_law_564 (by decide) ?_
          have hl := Eq.mp (congrArg (fun z : Int => lv_has ls 13 [(12, .int (zi z)), (11, .int (zi nn)), (10, .int (zi kc)), (9, .int (zi x)), (8, .int (zi (σ 3 la 0))), (7, .int (zi la)), (6, .int (zi (8 * k))), (5, .int (zi k)), (4, .ref (ad2 21 0)), (3, .ref (ad2 20 0)), (2, .int (zi 1)), (1, .ref (ad1 0 0)), (0, .ref b)]) (show (j + (-1) : Int) = (j - 1) from (by omega))) hl
          exact ih_500 (j - 1) (by omega) (by omega) _ _ hW (sw hN (by rw [hτ10, hτ9, hτ2]; exact nInP_s τ (by omega))) hS _ (lv_sub hl [0, 1, 2, 3, 4, 5, 6, 7, 8, 9, 10, 11, 12] rfl)
    exact loop_500 (Int.toNat ((σ 3 la 0) - x) + 1) (σ 3 la 0) (by omega) (by omega) _ _ hW (sw hN (nInP_0 τ la _).symm) hS _ (lv_sub hl [0, 1, 2, 3, 4, 5, 6, 7, 8, 9, 10, 11, 12] rfl)
  · refine lv_aload_n hx hb dL_law_470 rfl (lv_at hl 10 rfl) ?_
    refine lv_iload hx hb dL_law_471 (lv_at hl 4 rfl) ?_
    refine lv_iload hx hb dL_law_473 (lv_at hl 2 rfl) ?_
    refine lv_iload hx hb dL_law_475 (lv_at hl 1 rfl) ?_
    refine lv_iload hx hb dL_law_477 (lv_at hl 0 rfl) ?_
    refine l_w (As := [.ref (ad1 0 0), .int (zi la), .int (zi x), .int (zi kc), .int (zi nn)]) (rest := []) hK hA hl.1 (w_line_s hI hfl σ la x kc nn hv (by omega) (by omega) o1 o2 o3 (by omega)) (vx_cwSW 5 hts gL_law_L_line rfl rfl rfl (by decide +kernel) ⟨Nat.le_of_ble_eq_true rfl, Nat.le_of_ble_eq_true rfl⟩) hW hN hS ⟨by show C9 + 1 ≤ 600312; omega, by show S9 + 6 ≤ 7292994; omega⟩ rfl rfl (by decide) dL_law_479 (fun H locs hW hN hS => ?_)
    refine k_ldc (n := (-900003)) hC0 (by decide) (hts (.constant RL 27 (-900003)) (by decide +kernel)) dL_law_482 ?_
    refine k_same hC0 rfl dL_law_484 (tgt := 491) (by decide) ?_
    refine k_iconst hC0 dL_law_487 ?_
    refine lv_goto (tgt := 492) hx hb dL_law_488 (by decide) ?_
    refine lv_istore_n (lv' := [(2, .int (zi 1)), (11, .int (zi nn)), (10, .int (zi kc)), (9, .int (zi x)), (8, .int (zi (σ 3 la 0))), (7, .int (zi la)), (6, .int (zi (8 * k))), (5, .int (zi k)), (4, .ref (ad2 21 0)), (3, .ref (ad2 20 0)), (1, .ref (ad1 0 0)), (0, .ref b)]) hx hb dL_law_492 rfl hl (by decide) rfl (fun ls hl => ?_)
    refine lv_goto (tgt := 635) hx hb dL_law_493 (by decide) ?_
    refine lv_goto (tgt := 790) hx hb dL_law_635 (by decide) ?_
    refine W.widen (k := C9 + 5) (n := S9 + 30) (by omega) (by omega) ?_
    exact kk σ τ H locs ls hv hr rfl hW hN hS (lv_sub hl [5, 6, 7, 8, 9, 0, 10, 11] rfl)

set_option maxHeartbeats 4000000 in
set_option maxRecDepth 100000 in
theorem lt_ins1 {p : Program} {l : Launch} {e : Env} {s : State} {m : MethodId} {below : List Frame} {meth : Method} {c : Code} {H : Heap} {locs : List Loc} {ls : Array Slot} {Dg : va_G} {cA : Nat → ClassId} {ad1 ad2 : Nat → Int → Nat} {oc : Nat → Nat} {b L a av : Nat} {xs : Nat → Int32} (hK : LK p l c s m meth b L xs Dg cA oc a av) (hA : LA ad1 ad2 s.heap.size) {N M k la : Int} {σ τ : St} {C9 S9 : Nat} (hk : 0 ≤ k ∧ k < 40) (ha : 0 ≤ la ∧ la < 3) (hv : Inv N M σ) (hr : RA k σ τ) (hcs : C9 + 40 ≤ 600312 ∧ S9 + 240 ≤ 7292994) (hW : WP Dg ccnt ad1 (cE cA ad1 σ) H) (hN : WP Dg ncnt ad2 (nE cA ad2 τ) H) (hS : va_S (NA s.heap.size) s.heap H locs) (hl : lv_has ls 13 [(8, .int (zi (σ 3 la 0))), (7, .int (zi la)), (6, .int (zi (8 * k))), (5, .int (zi k)), (4, .ref (ad2 21 0)), (3, .ref (ad2 20 0)), (2, .int (zi 1)), (1, .ref (ad1 0 0)), (0, .ref b)]) (kk : (∀ (σ1 : St) (τ1 : St) (H : Heap) (locs : List Loc) (ls : Array Slot), (Inv N M σ1) → (RA k σ1 τ1) → (σ1 29 0 0 = σ 29 0 0) → WP Dg ccnt ad1 (cE cA ad1 σ1) H → WP Dg ncnt ad2 (nE cA ad2 τ1) H → va_S (NA s.heap.size) s.heap H locs → lv_has ls 13 [(7, .int (zi la)), (6, .int (zi (8 * k))), (5, .int (zi k)), (4, .ref (ad2 21 0)), (3, .ref (ad2 20 0)), (2, .int (zi 1)), (1, .ref (ad1 0 0)), (0, .ref b)] → W p l e room_1 s m #[Value.ref b] below meth c H locs (C9 + 5) (S9 + 30) (lw_Z below #[Value.ref b] s) (F0 m 790 ls []))) : W p l e room_1 s m #[Value.ref b] below meth c H locs C9 S9 (lw_Z below #[Value.ref b] s) (F0 m 338 ls []) := by
  have hI : WI ccnt ad1 := hA.1.1
  have hI2 : WI ncnt ad2 := hA.2.1.1
  have hfl := hK.2.2.2.2.1
  have hC0 := hK.1.1
  have hx := hC0.1
  have hb := hC0.2.1
  have hts := hC0.2.2.2.1
  obtain ⟨m0, m1, m2⟩ := hr.L la ha.1 ha.2
  refine lv_aload_n hx hb dL_law_338 rfl (lv_at hl 8 rfl) ?_
  refine lv_iload hx hb dL_law_339 (lv_at hl 2 rfl) ?_
  refine k_iconst hC0 dL_law_341 ?_
  refine k_iadd hC0 dL_law_342 ?_
  refine lv_iload hx hb dL_law_343 (lv_at hl 0 rfl) ?_
  refine k_iconst hC0 dL_law_345 ?_
  refine k_iadd hC0 dL_law_346 ?_
  refine l_in hK (by omega) (by omega) hl.1 hW hN hS ⟨by show C9 ≤ 600312; omega, by show S9 ≤ 7292994; omega⟩ (Nat.le_of_ble_eq_true rfl) dL_law_347 (fun H locs x9 hx9 hW hN hS => ?_)
  refine lv_istore (lv' := [(9, .int (zi x9)), (8, .int (zi (σ 3 la 0))), (7, .int (zi la)), (6, .int (zi (8 * k))), (5, .int (zi k)), (4, .ref (ad2 21 0)), (3, .ref (ad2 20 0)), (2, .int (zi 1)), (1, .ref (ad1 0 0)), (0, .ref b)]) hx hb dL_law_350 hl (by decide) rfl (fun ls hl => ?_)
  refine l_str hK dL_law_352 ?_
  refine lv_aload_n hx hb dL_law_354 rfl (lv_at hl 9 rfl) ?_
  refine lv_iload hx hb dL_law_355 (lv_at hl 3 rfl) ?_
  refine k_iconst hC0 dL_law_357 ?_
  refine k_iadd hC0 dL_law_358 ?_
  refine k_bipush hC0 dL_law_359 (by decide) ?_
  refine l_in hK (by omega) (by omega) hl.1 hW hN hS ⟨by show C9 ≤ 600312; omega, by show S9 ≤ 7292994; omega⟩ (Nat.le_of_ble_eq_true rfl) dL_law_361 (fun H locs c9 hc9 hW hN hS => ?_)
  refine l_ch hK (by omega) hl.1 hW hN hS ⟨by show C9 ≤ 600312; omega, by show S9 ≤ 7292994; omega⟩ (by decide) dL_law_364 (fun H locs hW hN hS => ?_)
  refine lv_istore (lv' := [(10, .int (zi (kch c9))), (9, .int (zi x9)), (8, .int (zi (σ 3 la 0))), (7, .int (zi la)), (6, .int (zi (8 * k))), (5, .int (zi k)), (4, .ref (ad2 21 0)), (3, .ref (ad2 20 0)), (2, .int (zi 1)), (1, .ref (ad1 0 0)), (0, .ref b)]) hx hb dL_law_367 hl (by decide) rfl (fun ls hl => ?_)
  obtain ⟨kc, hkc⟩ : ∃ z : Int, z = kch c9 := ⟨_, rfl⟩
  have hkk := kch_in c9
  rw [← hkc] at hkk
  have hl := Eq.mp (congrArg (fun z : Int => lv_has ls 13 [(10, .int (zi z)), (9, .int (zi x9)), (8, .int (zi (σ 3 la 0))), (7, .int (zi la)), (6, .int (zi (8 * k))), (5, .int (zi k)), (4, .ref (ad2 21 0)), (3, .ref (ad2 20 0)), (2, .int (zi 1)), (1, .ref (ad1 0 0)), (0, .ref b)]) (show (kch c9 : Int) = kc from hkc.symm)) hl
  have j461 : ∀ (nn : Int) (H : Heap) (locs : List Loc), okL kc nn → WP Dg ccnt ad1 (cE cA ad1 σ) H → WP Dg ncnt ad2 (nE cA ad2 τ) H → va_S (NA s.heap.size) s.heap H locs → W p l e room_1 s m #[Value.ref b] below meth c H locs C9 S9 (lw_Z below #[Value.ref b] s) (F0 m 461 ls [.int (zi nn)]) := fun nn H locs hok hW hN hS => lt_ins2 hK hA hk ha hv hr ⟨by omega, by omega⟩ hok hcs hW hN hS (lv_sub hl [0, 1, 2, 3, 4, 5, 6, 7, 8, 9, 10] rfl) kk
  rcases hkk with rfl | rfl | rfl | rfl | rfl | rfl | rfl | rfl | rfl
  · refine lv_iload hx hb dL_law_369 (lv_at hl 0 rfl) ?_
    refine k_bipush hC0 dL_law_371 (by decide) ?_
    refine k_icmp_ne (tgt := 390) hC0 dL_law_373 (by decide) (by omega) (fun c1 => ?_) (fun c1 => absurd c1 (by omega))
    refine lv_iload hx hb dL_law_390 (lv_at hl 0 rfl) ?_
    refine k_bipush hC0 dL_law_392 (by decide) ?_
    refine k_icmp_eq (tgt := 411) hC0 dL_law_394 (by decide) (by omega) (fun c2 => absurd c2 (by omega)) (fun c2 => ?_)
    refine lv_iload hx hb dL_law_397 (lv_at hl 0 rfl) ?_
    refine k_bipush hC0 dL_law_399 (by decide) ?_
    refine k_icmp_eq (tgt := 411) hC0 dL_law_401 (by decide) (by omega) (fun c3 => absurd c3 (by omega)) (fun c3 => ?_)
    refine lv_iload hx hb dL_law_404 (lv_at hl 0 rfl) ?_
    refine k_bipush hC0 dL_law_406 (by decide) ?_
    refine k_icmp_ne (tgt := 424) hC0 dL_law_408 (by decide) (by omega) (fun c4 => ?_) (fun c4 => absurd c4 (by omega))
    refine lv_iload hx hb dL_law_424 (lv_at hl 0 rfl) ?_
    refine k_bipush hC0 dL_law_426 (by decide) ?_
    refine k_icmp_eq (tgt := 438) hC0 dL_law_428 (by decide) (by omega) (fun c5 => absurd c5 (by omega)) (fun c5 => ?_)
    refine lv_iload hx hb dL_law_431 (lv_at hl 0 rfl) ?_
    refine k_bipush hC0 dL_law_433 (by decide) ?_
    refine k_icmp_ne (tgt := 451) hC0 dL_law_435 (by decide) (by omega) (fun c6 => ?_) (fun c6 => absurd c6 (by omega))
    refine lv_aload_n hx hb dL_law_451 rfl (lv_at hl 10 rfl) ?_
    refine lv_iload hx hb dL_law_452 (lv_at hl 4 rfl) ?_
    refine k_iconst hC0 dL_law_454 ?_
    refine k_iadd hC0 dL_law_455 ?_
    refine k_bipush hC0 dL_law_456 (by decide) ?_
    refine l_in hK (by omega) (by omega) hl.1 hW hN hS ⟨by show C9 ≤ 600312; omega, by show S9 ≤ 7292994; omega⟩ (Nat.le_of_ble_eq_true rfl) dL_law_458 (fun H locs r7 hr7 hW hN hS => ?_)
    exact j461 _ H locs (by unfold okL; omega) hW hN hS
  · refine lv_iload hx hb dL_law_369 (lv_at hl 0 rfl) ?_
    refine k_bipush hC0 dL_law_371 (by decide) ?_
    refine k_icmp_ne (tgt := 390) hC0 dL_law_373 (by decide) (by omega) (fun c8 => absurd c8 (by omega)) (fun c8 => ?_)
    refine k_iconst hC0 dL_law_376 ?_
    refine lv_aload_n hx hb dL_law_377 rfl (lv_at hl 10 rfl) ?_
    refine lv_iload hx hb dL_law_378 (lv_at hl 4 rfl) ?_
    refine k_iconst hC0 dL_law_380 ?_
    refine k_iadd hC0 dL_law_381 ?_
    refine k_iconst hC0 dL_law_382 ?_
    refine l_in hK (by omega) (by omega) hl.1 hW hN hS ⟨by show C9 ≤ 600312; omega, by show S9 ≤ 7292994; omega⟩ (Nat.le_of_ble_eq_true rfl) dL_law_383 (fun H locs r9 hr9 hW hN hS => ?_)
    refine k_iadd hC0 dL_law_386 ?_
    refine lv_goto (tgt := 461) hx hb dL_law_387 (by decide) ?_
    exact j461 _ H locs (by unfold okL; omega) hW hN hS
  · refine lv_iload hx hb dL_law_369 (lv_at hl 0 rfl) ?_
    refine k_bipush hC0 dL_law_371 (by decide) ?_
    refine k_icmp_ne (tgt := 390) hC0 dL_law_373 (by decide) (by omega) (fun c10 => ?_) (fun c10 => absurd c10 (by omega))
    refine lv_iload hx hb dL_law_390 (lv_at hl 0 rfl) ?_
    refine k_bipush hC0 dL_law_392 (by decide) ?_
    refine k_icmp_eq (tgt := 411) hC0 dL_law_394 (by decide) (by omega) (fun c11 => ?_) (fun c11 => absurd c11 (by omega))
    refine lv_aload_n hx hb dL_law_411 rfl (lv_at hl 10 rfl) ?_
    refine lv_iload hx hb dL_law_412 (lv_at hl 4 rfl) ?_
    refine k_iconst hC0 dL_law_414 ?_
    refine k_iadd hC0 dL_law_415 ?_
    refine k_bipush hC0 dL_law_416 (by decide) ?_
    refine l_in hK (by omega) (by omega) hl.1 hW hN hS ⟨by show C9 ≤ 600312; omega, by show S9 ≤ 7292994; omega⟩ (Nat.le_of_ble_eq_true rfl) dL_law_418 (fun H locs r12 hr12 hW hN hS => ?_)
    refine lv_goto (tgt := 461) hx hb dL_law_421 (by decide) ?_
    exact j461 _ H locs (by unfold okL; omega) hW hN hS
  · refine lv_iload hx hb dL_law_369 (lv_at hl 0 rfl) ?_
    refine k_bipush hC0 dL_law_371 (by decide) ?_
    refine k_icmp_ne (tgt := 390) hC0 dL_law_373 (by decide) (by omega) (fun c13 => ?_) (fun c13 => absurd c13 (by omega))
    refine lv_iload hx hb dL_law_390 (lv_at hl 0 rfl) ?_
    refine k_bipush hC0 dL_law_392 (by decide) ?_
    refine k_icmp_eq (tgt := 411) hC0 dL_law_394 (by decide) (by omega) (fun c14 => absurd c14 (by omega)) (fun c14 => ?_)
    refine lv_iload hx hb dL_law_397 (lv_at hl 0 rfl) ?_
    refine k_bipush hC0 dL_law_399 (by decide) ?_
    refine k_icmp_eq (tgt := 411) hC0 dL_law_401 (by decide) (by omega) (fun c15 => ?_) (fun c15 => absurd c15 (by omega))
    refine lv_aload_n hx hb dL_law_411 rfl (lv_at hl 10 rfl) ?_
    refine lv_iload hx hb dL_law_412 (lv_at hl 4 rfl) ?_
    refine k_iconst hC0 dL_law_414 ?_
    refine k_iadd hC0 dL_law_415 ?_
    refine k_bipush hC0 dL_law_416 (by decide) ?_
    refine l_in hK (by omega) (by omega) hl.1 hW hN hS ⟨by show C9 ≤ 600312; omega, by show S9 ≤ 7292994; omega⟩ (Nat.le_of_ble_eq_true rfl) dL_law_418 (fun H locs r16 hr16 hW hN hS => ?_)
    refine lv_goto (tgt := 461) hx hb dL_law_421 (by decide) ?_
    exact j461 _ H locs (by unfold okL; omega) hW hN hS
  · refine lv_iload hx hb dL_law_369 (lv_at hl 0 rfl) ?_
    refine k_bipush hC0 dL_law_371 (by decide) ?_
    refine k_icmp_ne (tgt := 390) hC0 dL_law_373 (by decide) (by omega) (fun c17 => ?_) (fun c17 => absurd c17 (by omega))
    refine lv_iload hx hb dL_law_390 (lv_at hl 0 rfl) ?_
    refine k_bipush hC0 dL_law_392 (by decide) ?_
    refine k_icmp_eq (tgt := 411) hC0 dL_law_394 (by decide) (by omega) (fun c18 => absurd c18 (by omega)) (fun c18 => ?_)
    refine lv_iload hx hb dL_law_397 (lv_at hl 0 rfl) ?_
    refine k_bipush hC0 dL_law_399 (by decide) ?_
    refine k_icmp_eq (tgt := 411) hC0 dL_law_401 (by decide) (by omega) (fun c19 => absurd c19 (by omega)) (fun c19 => ?_)
    refine lv_iload hx hb dL_law_404 (lv_at hl 0 rfl) ?_
    refine k_bipush hC0 dL_law_406 (by decide) ?_
    refine k_icmp_ne (tgt := 424) hC0 dL_law_408 (by decide) (by omega) (fun c20 => absurd c20 (by omega)) (fun c20 => ?_)
    refine lv_aload_n hx hb dL_law_411 rfl (lv_at hl 10 rfl) ?_
    refine lv_iload hx hb dL_law_412 (lv_at hl 4 rfl) ?_
    refine k_iconst hC0 dL_law_414 ?_
    refine k_iadd hC0 dL_law_415 ?_
    refine k_bipush hC0 dL_law_416 (by decide) ?_
    refine l_in hK (by omega) (by omega) hl.1 hW hN hS ⟨by show C9 ≤ 600312; omega, by show S9 ≤ 7292994; omega⟩ (Nat.le_of_ble_eq_true rfl) dL_law_418 (fun H locs r21 hr21 hW hN hS => ?_)
    refine lv_goto (tgt := 461) hx hb dL_law_421 (by decide) ?_
    exact j461 _ H locs (by unfold okL; omega) hW hN hS
  · refine lv_iload hx hb dL_law_369 (lv_at hl 0 rfl) ?_
    refine k_bipush hC0 dL_law_371 (by decide) ?_
    refine k_icmp_ne (tgt := 390) hC0 dL_law_373 (by decide) (by omega) (fun c22 => ?_) (fun c22 => absurd c22 (by omega))
    refine lv_iload hx hb dL_law_390 (lv_at hl 0 rfl) ?_
    refine k_bipush hC0 dL_law_392 (by decide) ?_
    refine k_icmp_eq (tgt := 411) hC0 dL_law_394 (by decide) (by omega) (fun c23 => absurd c23 (by omega)) (fun c23 => ?_)
    refine lv_iload hx hb dL_law_397 (lv_at hl 0 rfl) ?_
    refine k_bipush hC0 dL_law_399 (by decide) ?_
    refine k_icmp_eq (tgt := 411) hC0 dL_law_401 (by decide) (by omega) (fun c24 => absurd c24 (by omega)) (fun c24 => ?_)
    refine lv_iload hx hb dL_law_404 (lv_at hl 0 rfl) ?_
    refine k_bipush hC0 dL_law_406 (by decide) ?_
    refine k_icmp_ne (tgt := 424) hC0 dL_law_408 (by decide) (by omega) (fun c25 => ?_) (fun c25 => absurd c25 (by omega))
    refine lv_iload hx hb dL_law_424 (lv_at hl 0 rfl) ?_
    refine k_bipush hC0 dL_law_426 (by decide) ?_
    refine k_icmp_eq (tgt := 438) hC0 dL_law_428 (by decide) (by omega) (fun c26 => absurd c26 (by omega)) (fun c26 => ?_)
    refine lv_iload hx hb dL_law_431 (lv_at hl 0 rfl) ?_
    refine k_bipush hC0 dL_law_433 (by decide) ?_
    refine k_icmp_ne (tgt := 451) hC0 dL_law_435 (by decide) (by omega) (fun c27 => ?_) (fun c27 => absurd c27 (by omega))
    refine lv_aload_n hx hb dL_law_451 rfl (lv_at hl 10 rfl) ?_
    refine lv_iload hx hb dL_law_452 (lv_at hl 4 rfl) ?_
    refine k_iconst hC0 dL_law_454 ?_
    refine k_iadd hC0 dL_law_455 ?_
    refine k_bipush hC0 dL_law_456 (by decide) ?_
    refine l_in hK (by omega) (by omega) hl.1 hW hN hS ⟨by show C9 ≤ 600312; omega, by show S9 ≤ 7292994; omega⟩ (Nat.le_of_ble_eq_true rfl) dL_law_458 (fun H locs r28 hr28 hW hN hS => ?_)
    exact j461 _ H locs (by unfold okL; omega) hW hN hS
  · refine lv_iload hx hb dL_law_369 (lv_at hl 0 rfl) ?_
    refine k_bipush hC0 dL_law_371 (by decide) ?_
    refine k_icmp_ne (tgt := 390) hC0 dL_law_373 (by decide) (by omega) (fun c29 => ?_) (fun c29 => absurd c29 (by omega))
    refine lv_iload hx hb dL_law_390 (lv_at hl 0 rfl) ?_
    refine k_bipush hC0 dL_law_392 (by decide) ?_
    refine k_icmp_eq (tgt := 411) hC0 dL_law_394 (by decide) (by omega) (fun c30 => absurd c30 (by omega)) (fun c30 => ?_)
    refine lv_iload hx hb dL_law_397 (lv_at hl 0 rfl) ?_
    refine k_bipush hC0 dL_law_399 (by decide) ?_
    refine k_icmp_eq (tgt := 411) hC0 dL_law_401 (by decide) (by omega) (fun c31 => absurd c31 (by omega)) (fun c31 => ?_)
    refine lv_iload hx hb dL_law_404 (lv_at hl 0 rfl) ?_
    refine k_bipush hC0 dL_law_406 (by decide) ?_
    refine k_icmp_ne (tgt := 424) hC0 dL_law_408 (by decide) (by omega) (fun c32 => ?_) (fun c32 => absurd c32 (by omega))
    refine lv_iload hx hb dL_law_424 (lv_at hl 0 rfl) ?_
    refine k_bipush hC0 dL_law_426 (by decide) ?_
    refine k_icmp_eq (tgt := 438) hC0 dL_law_428 (by decide) (by omega) (fun c33 => absurd c33 (by omega)) (fun c33 => ?_)
    refine lv_iload hx hb dL_law_431 (lv_at hl 0 rfl) ?_
    refine k_bipush hC0 dL_law_433 (by decide) ?_
    refine k_icmp_ne (tgt := 451) hC0 dL_law_435 (by decide) (by omega) (fun c34 => ?_) (fun c34 => absurd c34 (by omega))
    refine lv_aload_n hx hb dL_law_451 rfl (lv_at hl 10 rfl) ?_
    refine lv_iload hx hb dL_law_452 (lv_at hl 4 rfl) ?_
    refine k_iconst hC0 dL_law_454 ?_
    refine k_iadd hC0 dL_law_455 ?_
    refine k_bipush hC0 dL_law_456 (by decide) ?_
    refine l_in hK (by omega) (by omega) hl.1 hW hN hS ⟨by show C9 ≤ 600312; omega, by show S9 ≤ 7292994; omega⟩ (Nat.le_of_ble_eq_true rfl) dL_law_458 (fun H locs r35 hr35 hW hN hS => ?_)
    exact j461 _ H locs (by unfold okL; omega) hW hN hS
  · refine lv_iload hx hb dL_law_369 (lv_at hl 0 rfl) ?_
    refine k_bipush hC0 dL_law_371 (by decide) ?_
    refine k_icmp_ne (tgt := 390) hC0 dL_law_373 (by decide) (by omega) (fun c36 => ?_) (fun c36 => absurd c36 (by omega))
    refine lv_iload hx hb dL_law_390 (lv_at hl 0 rfl) ?_
    refine k_bipush hC0 dL_law_392 (by decide) ?_
    refine k_icmp_eq (tgt := 411) hC0 dL_law_394 (by decide) (by omega) (fun c37 => absurd c37 (by omega)) (fun c37 => ?_)
    refine lv_iload hx hb dL_law_397 (lv_at hl 0 rfl) ?_
    refine k_bipush hC0 dL_law_399 (by decide) ?_
    refine k_icmp_eq (tgt := 411) hC0 dL_law_401 (by decide) (by omega) (fun c38 => absurd c38 (by omega)) (fun c38 => ?_)
    refine lv_iload hx hb dL_law_404 (lv_at hl 0 rfl) ?_
    refine k_bipush hC0 dL_law_406 (by decide) ?_
    refine k_icmp_ne (tgt := 424) hC0 dL_law_408 (by decide) (by omega) (fun c39 => ?_) (fun c39 => absurd c39 (by omega))
    refine lv_iload hx hb dL_law_424 (lv_at hl 0 rfl) ?_
    refine k_bipush hC0 dL_law_426 (by decide) ?_
    refine k_icmp_eq (tgt := 438) hC0 dL_law_428 (by decide) (by omega) (fun c40 => ?_) (fun c40 => absurd c40 (by omega))
    refine lv_aload_n hx hb dL_law_438 rfl (lv_at hl 10 rfl) ?_
    refine lv_iload hx hb dL_law_439 (lv_at hl 4 rfl) ?_
    refine k_iconst hC0 dL_law_441 ?_
    refine k_iadd hC0 dL_law_442 ?_
    refine k_bipush hC0 dL_law_443 (by decide) ?_
    refine l_in hK (by omega) (by omega) hl.1 hW hN hS ⟨by show C9 ≤ 600312; omega, by show S9 ≤ 7292994; omega⟩ (Nat.le_of_ble_eq_true rfl) dL_law_445 (fun H locs r41 hr41 hW hN hS => ?_)
    refine lv_goto (tgt := 461) hx hb dL_law_448 (by decide) ?_
    exact j461 _ H locs (by unfold okL; omega) hW hN hS
  · refine lv_iload hx hb dL_law_369 (lv_at hl 0 rfl) ?_
    refine k_bipush hC0 dL_law_371 (by decide) ?_
    refine k_icmp_ne (tgt := 390) hC0 dL_law_373 (by decide) (by omega) (fun c42 => ?_) (fun c42 => absurd c42 (by omega))
    refine lv_iload hx hb dL_law_390 (lv_at hl 0 rfl) ?_
    refine k_bipush hC0 dL_law_392 (by decide) ?_
    refine k_icmp_eq (tgt := 411) hC0 dL_law_394 (by decide) (by omega) (fun c43 => absurd c43 (by omega)) (fun c43 => ?_)
    refine lv_iload hx hb dL_law_397 (lv_at hl 0 rfl) ?_
    refine k_bipush hC0 dL_law_399 (by decide) ?_
    refine k_icmp_eq (tgt := 411) hC0 dL_law_401 (by decide) (by omega) (fun c44 => absurd c44 (by omega)) (fun c44 => ?_)
    refine lv_iload hx hb dL_law_404 (lv_at hl 0 rfl) ?_
    refine k_bipush hC0 dL_law_406 (by decide) ?_
    refine k_icmp_ne (tgt := 424) hC0 dL_law_408 (by decide) (by omega) (fun c45 => ?_) (fun c45 => absurd c45 (by omega))
    refine lv_iload hx hb dL_law_424 (lv_at hl 0 rfl) ?_
    refine k_bipush hC0 dL_law_426 (by decide) ?_
    refine k_icmp_eq (tgt := 438) hC0 dL_law_428 (by decide) (by omega) (fun c46 => absurd c46 (by omega)) (fun c46 => ?_)
    refine lv_iload hx hb dL_law_431 (lv_at hl 0 rfl) ?_
    refine k_bipush hC0 dL_law_433 (by decide) ?_
    refine k_icmp_ne (tgt := 451) hC0 dL_law_435 (by decide) (by omega) (fun c47 => absurd c47 (by omega)) (fun c47 => ?_)
    refine lv_aload_n hx hb dL_law_438 rfl (lv_at hl 10 rfl) ?_
    refine lv_iload hx hb dL_law_439 (lv_at hl 4 rfl) ?_
    refine k_iconst hC0 dL_law_441 ?_
    refine k_iadd hC0 dL_law_442 ?_
    refine k_bipush hC0 dL_law_443 (by decide) ?_
    refine l_in hK (by omega) (by omega) hl.1 hW hN hS ⟨by show C9 ≤ 600312; omega, by show S9 ≤ 7292994; omega⟩ (Nat.le_of_ble_eq_true rfl) dL_law_445 (fun H locs r48 hr48 hW hN hS => ?_)
    refine lv_goto (tgt := 461) hx hb dL_law_448 (by decide) ?_
    exact j461 _ H locs (by unfold okL; omega) hW hN hS

set_option maxHeartbeats 4000000 in
set_option maxRecDepth 100000 in
theorem lt_cut {p : Program} {l : Launch} {e : Env} {s : State} {m : MethodId} {below : List Frame} {meth : Method} {c : Code} {H : Heap} {locs : List Loc} {ls : Array Slot} {Dg : va_G} {cA : Nat → ClassId} {ad1 ad2 : Nat → Int → Nat} {oc : Nat → Nat} {b L a av : Nat} {xs : Nat → Int32} (hK : LK p l c s m meth b L xs Dg cA oc a av) (hA : LA ad1 ad2 s.heap.size) {N M k la : Int} {σ τ : St} {C9 S9 : Nat} (hk : 0 ≤ k ∧ k < 40) (ha : 0 ≤ la ∧ la < 3) (hv : Inv N M σ) (hr : RA k σ τ) (hcs : C9 + 40 ≤ 600312 ∧ S9 + 240 ≤ 7292994) (hW : WP Dg ccnt ad1 (cE cA ad1 σ) H) (hN : WP Dg ncnt ad2 (nE cA ad2 τ) H) (hS : va_S (NA s.heap.size) s.heap H locs) (hl : lv_has ls 13 [(8, .int (zi (σ 3 la 0))), (7, .int (zi la)), (6, .int (zi (8 * k))), (5, .int (zi k)), (4, .ref (ad2 21 0)), (3, .ref (ad2 20 0)), (2, .int (zi 1)), (1, .ref (ad1 0 0)), (0, .ref b)]) (kk : (∀ (σ1 : St) (τ1 : St) (H : Heap) (locs : List Loc) (ls : Array Slot), (Inv N M σ1) → (RA k σ1 τ1) → (σ1 29 0 0 = σ 29 0 0) → WP Dg ccnt ad1 (cE cA ad1 σ1) H → WP Dg ncnt ad2 (nE cA ad2 τ1) H → va_S (NA s.heap.size) s.heap H locs → lv_has ls 13 [(7, .int (zi la)), (6, .int (zi (8 * k))), (5, .int (zi k)), (4, .ref (ad2 21 0)), (3, .ref (ad2 20 0)), (2, .int (zi 1)), (1, .ref (ad1 0 0)), (0, .ref b)] → W p l e room_1 s m #[Value.ref b] below meth c H locs (C9 + 5) (S9 + 30) (lw_Z below #[Value.ref b] s) (F0 m 790 ls []))) : W p l e room_1 s m #[Value.ref b] below meth c H locs C9 S9 (lw_Z below #[Value.ref b] s) (F0 m 638 ls []) := by
  have hI : WI ccnt ad1 := hA.1.1
  have hI2 : WI ncnt ad2 := hA.2.1.1
  have hfl := hK.2.2.2.2.1
  have hC0 := hK.1.1
  have hx := hC0.1
  have hb := hC0.2.1
  have hts := hC0.2.2.2.1
  obtain ⟨q26, q27, q28, q12, q13⟩ := hr.Q
  obtain ⟨m0, m1, m2⟩ := hr.L la ha.1 ha.2
  refine lv_aload_n hx hb dL_law_638 rfl (lv_at hl 8 rfl) ?_
  refine lv_iload hx hb dL_law_639 (lv_at hl 2 rfl) ?_
  refine k_iconst hC0 dL_law_641 ?_
  refine k_iadd hC0 dL_law_642 ?_
  refine lv_iload hx hb dL_law_643 (lv_at hl 0 rfl) ?_
  refine k_iconst hC0 dL_law_645 ?_
  refine k_iadd hC0 dL_law_646 ?_
  refine l_in hK (by omega) (by omega) hl.1 hW hN hS ⟨by show C9 ≤ 600312; omega, by show S9 ≤ 7292994; omega⟩ (Nat.le_of_ble_eq_true rfl) dL_law_647 (fun H locs x9 hx9 hW hN hS => ?_)
  refine lv_istore (lv' := [(9, .int (zi x9)), (8, .int (zi (σ 3 la 0))), (7, .int (zi la)), (6, .int (zi (8 * k))), (5, .int (zi k)), (4, .ref (ad2 21 0)), (3, .ref (ad2 20 0)), (2, .int (zi 1)), (1, .ref (ad1 0 0)), (0, .ref b)]) hx hb dL_law_650 hl (by decide) rfl (fun ls hl => ?_)
  refine lv_aload_n hx hb dL_law_652 rfl (lv_at hl 6 rfl) ?_
  refine k_bipush hC0 dL_law_653 (by decide) ?_
  refine lv_iload hx hb dL_law_655 (lv_at hl 2 rfl) ?_
  refine k_imul hC0 dL_law_657 ?_
  refine k_iconst hC0 dL_law_658 ?_
  refine k_iadd hC0 dL_law_659 ?_
  refine k_iconst hC0 dL_law_660 ?_
  refine lv_iload hx hb dL_law_661 (lv_at hl 0 rfl) ?_
  refine k_imul hC0 dL_law_663 ?_
  refine k_iadd hC0 dL_law_664 ?_
  obtain ⟨kv, hkv⟩ : ∃ z : Int, z = τ 40 (50 * la + 1 + 2 * x9) 0 := ⟨_, rfl⟩
  refine lr_net (v := kv) hK hA hN (by omega) hkv.symm dL_law_665 ?_
  refine lv_istore (lv' := [(10, .int (zi kv)), (9, .int (zi x9)), (8, .int (zi (σ 3 la 0))), (7, .int (zi la)), (6, .int (zi (8 * k))), (5, .int (zi k)), (4, .ref (ad2 21 0)), (3, .ref (ad2 20 0)), (2, .int (zi 1)), (1, .ref (ad1 0 0)), (0, .ref b)]) hx hb dL_law_666 hl (by decide) rfl (fun ls hl => ?_)
  rcases Classical.em (x9 = σ 3 la 0) with hxm | hxm
  · refine lv_aload_n hx hb dL_law_668 rfl (lv_at hl 9 rfl) ?_
    refine lv_iload hx hb dL_law_669 (lv_at hl 3 rfl) ?_
    refine lv_iload hx hb dL_law_671 (lv_at hl 1 rfl) ?_
    refine l_w (As := [.ref (ad1 0 0), .int (zi la), .int (zi x9)]) (rest := []) hK hA hl.1 (w_cut_y hI hfl σ la x9 hv (by omega) (by omega) (by omega)) (vx_cwSW 3 hts gL_law_L_cut rfl rfl rfl (by decide +kernel) ⟨Nat.le_of_ble_eq_true rfl, Nat.le_of_ble_eq_true rfl⟩) hW hN hS ⟨by show C9 + 1 ≤ 600312; omega, by show S9 + 6 ≤ 7292994; omega⟩ rfl rfl (by decide) dL_law_673 (fun H locs hW hN hS => ?_)
    refine lv_iload hx hb dL_law_676 (lv_at hl 1 rfl) ?_
    refine lv_iload hx hb dL_law_678 (lv_at hl 2 rfl) ?_
    refine k_icmp_ne (tgt := 688) hC0 dL_law_680 (by decide) (by omega) (fun c1 => absurd c1 (by omega)) (fun c1 => ?_)
    refine k_ldc (n := (-900001)) hC0 (by decide) (hts (.constant RL 17 (-900001)) (by decide +kernel)) dL_law_683 ?_
    refine lv_goto (tgt := 690) hx hb dL_law_685 (by decide) ?_
    refine k_same hC0 rfl dL_law_690 (tgt := 697) (by decide) ?_
    refine k_iconst hC0 dL_law_693 ?_
    refine lv_goto (tgt := 698) hx hb dL_law_694 (by decide) ?_
    refine lv_istore_n (lv' := [(2, .int (zi 1)), (10, .int (zi kv)), (9, .int (zi x9)), (8, .int (zi (σ 3 la 0))), (7, .int (zi la)), (6, .int (zi (8 * k))), (5, .int (zi k)), (4, .ref (ad2 21 0)), (3, .ref (ad2 20 0)), (1, .ref (ad1 0 0)), (0, .ref b)]) hx hb dL_law_698 rfl hl (by decide) rfl (fun ls hl => ?_)
    refine lv_iload hx hb dL_law_699 (lv_at hl 2 rfl) ?_
    refine lv_iload hx hb dL_law_701 (lv_at hl 3 rfl) ?_
    refine k_icmp_ge (tgt := 790) hC0 dL_law_703 (by decide) (by omega) (fun c3 => ?_) (fun c3 => absurd c3 (by omega))
    refine W.widen (k := C9 + 5) (n := S9 + 30) (by omega) (by omega) ?_
    exact kk σ τ H locs ls hv hr rfl hW hN hS (lv_sub hl [4, 5, 6, 7, 8, 0, 9, 10] rfl)
  · refine lv_aload_n hx hb dL_law_668 rfl (lv_at hl 9 rfl) ?_
    refine lv_iload hx hb dL_law_669 (lv_at hl 3 rfl) ?_
    refine lv_iload hx hb dL_law_671 (lv_at hl 1 rfl) ?_
    refine l_w (As := [.ref (ad1 0 0), .int (zi la), .int (zi x9)]) (rest := []) hK hA hl.1 (w_cut hI hfl σ la x9 hv (by omega) (by omega)) (vx_cwSW 3 hts gL_law_L_cut rfl rfl rfl (by decide +kernel) ⟨Nat.le_of_ble_eq_true rfl, Nat.le_of_ble_eq_true rfl⟩) hW hN hS ⟨by show C9 + 1 ≤ 600312; omega, by show S9 + 6 ≤ 7292994; omega⟩ rfl rfl (by decide) dL_law_673 (fun H locs hW hN hS => ?_)
    obtain ⟨σ4, hσ4⟩ : ∃ z, z = (fRem σ la x9) := ⟨_, rfl⟩
    rw [← hσ4] at hW
    refine lv_iload hx hb dL_law_676 (lv_at hl 1 rfl) ?_
    refine lv_iload hx hb dL_law_678 (lv_at hl 2 rfl) ?_
    refine k_icmp_ne (tgt := 688) hC0 dL_law_680 (by decide) (by omega) (fun c5 => ?_) (fun c5 => absurd c5 (by omega))
    refine lv_iload hx hb dL_law_688 (lv_at hl 0 rfl) ?_
    refine k_same hC0 (by rw [hkv]; exact (m2 x9 (by omega) (by omega)).1.symm) dL_law_690 (tgt := 697) (by decide) ?_
    refine k_iconst hC0 dL_law_693 ?_
    refine lv_goto (tgt := 698) hx hb dL_law_694 (by decide) ?_
    refine lv_istore_n (lv' := [(2, .int (zi 1)), (10, .int (zi kv)), (9, .int (zi x9)), (8, .int (zi (σ 3 la 0))), (7, .int (zi la)), (6, .int (zi (8 * k))), (5, .int (zi k)), (4, .ref (ad2 21 0)), (3, .ref (ad2 20 0)), (1, .ref (ad1 0 0)), (0, .ref b)]) hx hb dL_law_698 rfl hl (by decide) rfl (fun ls hl => ?_)
    refine lv_iload hx hb dL_law_699 (lv_at hl 2 rfl) ?_
    refine lv_iload hx hb dL_law_701 (lv_at hl 3 rfl) ?_
    refine k_icmp_ge (tgt := 790) hC0 dL_law_703 (by decide) (by omega) (fun c7 => absurd c7 (by omega)) (fun c7 => ?_)
    refine lv_iload hx hb dL_law_706 (lv_at hl 2 rfl) ?_
    refine lv_istore (lv' := [(11, .int (zi x9)), (2, .int (zi 1)), (10, .int (zi kv)), (9, .int (zi x9)), (8, .int (zi (σ 3 la 0))), (7, .int (zi la)), (6, .int (zi (8 * k))), (5, .int (zi k)), (4, .ref (ad2 21 0)), (3, .ref (ad2 20 0)), (1, .ref (ad1 0 0)), (0, .ref b)]) hx hb dL_law_708 hl (by decide) rfl (fun ls hl => ?_)
    have loop_710 : ∀ (fuel : Nat) (j : Int), σ 3 la 0 - j < (fuel : Int) → (x9 ≤ j ∧ j ≤ σ 3 la 0) → ∀ (H : Heap) (locs : List Loc), WP Dg ccnt ad1 (cE cA ad1 σ4) H → WP Dg ncnt ad2 (nE cA ad2 (nRmP τ la x9 j)) H → va_S (NA s.heap.size) s.heap H locs → ∀ ls : Array Slot, lv_has ls 13 [(11, .int (zi j)), (10, .int (zi kv)), (9, .int (zi x9)), (8, .int (zi (σ 3 la 0))), (7, .int (zi la)), (6, .int (zi (8 * k))), (5, .int (zi k)), (4, .ref (ad2 21 0)), (3, .ref (ad2 20 0)), (2, .int (zi 1)), (1, .ref (ad1 0 0)), (0, .ref b)] → W p l e room_1 s m #[Value.ref b] below meth c H locs (C9 + 1) (S9 + 6) (lw_Z below #[Value.ref b] s) (F0 m 710 ls []) := by
      intro fuel
      induction fuel with
      | zero => intro j hn i1; exact absurd hn (by omega)
      | succ fuel ih_710 =>
        intro j hn i1 H locs hW hN hS ls hl
        obtain ⟨τ8, hτ8⟩ : ∃ z, z = nRmP τ la x9 j := ⟨_, rfl⟩
        rw [← hτ8] at hN
        refine lv_iload hx hb dL_law_710 (lv_at hl 0 rfl) ?_
        refine lv_iload hx hb dL_law_712 (lv_at hl 3 rfl) ?_
        refine k_icmp_ge (tgt := 779) hC0 dL_law_714 (by decide) (by omega) (fun c9 => ?_) (fun c9 => ?_)
        · refine lv_aload_n hx hb dL_law_779 rfl (lv_at hl 8 rfl) ?_
          refine k_bipush hC0 dL_law_780 (by decide) ?_
          refine lv_iload hx hb dL_law_782 (lv_at hl 4 rfl) ?_
          refine k_imul hC0 dL_law_784 ?_
          refine lv_dup2_11 hx hb dL_law_785 rfl rfl ?_
          refine lr_net (v := σ 3 la 0) hK hA hN (by omega) (by rw [hτ8]; unfold nRmP; rw [if_neg (by omega)]; exact m1) dL_law_786 ?_
          refine k_iconst hC0 dL_law_787 ?_
          refine k_isub hC0 dL_law_788 ?_
          refine lw_net hK hA hW hN hS (by omega) dL_law_789 (fun H locs hW hN hS => ?_)
          obtain ⟨τ10, hτ10⟩ : ∃ z, z = ups τ8 40 (50 * la) 0 ((σ 3 la 0) - 1) := ⟨_, rfl⟩
          rw [← hτ10] at hN
          have em : j = σ 3 la 0 := by omega
          have eN : τ10 = nRem τ la (σ 3 la 0) x9 := by rw [hτ10, hτ8, em]; rfl
          refine W.widen (k := C9 + 5) (n := S9 + 30) (by omega) (by omega) ?_
          exact kk σ4 τ10 H locs ls (by rw [hσ4]; exact Inv_fRem hv (by omega) (by omega)) (by rw [hσ4, eN]; exact RA_rem hr ha ⟨by omega, by omega⟩) (by rw [hσ4, at1 (fRem_T _ _ _) (t := 29) (by decide)]) hW hN hS (lv_sub hl [4, 5, 6, 7, 8, 9, 10, 11] rfl)
        · refine lv_aload_n hx hb dL_law_717 rfl (lv_at hl 8 rfl) ?_
          refine k_bipush hC0 dL_law_718 (by decide) ?_
          refine lv_iload hx hb dL_law_720 (lv_at hl 4 rfl) ?_
          refine k_imul hC0 dL_law_722 ?_
          refine k_iconst hC0 dL_law_723 ?_
          refine k_iadd hC0 dL_law_724 ?_
          refine k_iconst hC0 dL_law_725 ?_
          refine lv_iload hx hb dL_law_726 (lv_at hl 0 rfl) ?_
          refine k_imul hC0 dL_law_728 ?_
          refine k_iadd hC0 dL_law_729 ?_
          refine lv_aload_n hx hb dL_law_730 rfl (lv_at hl 8 rfl) ?_
          refine k_bipush hC0 dL_law_731 (by decide) ?_
          refine lv_iload hx hb dL_law_733 (lv_at hl 4 rfl) ?_
          refine k_imul hC0 dL_law_735 ?_
          refine k_iconst hC0 dL_law_736 ?_
          refine k_iadd hC0 dL_law_737 ?_
          refine k_iconst hC0 dL_law_738 ?_
          refine lv_iload hx hb dL_law_739 (lv_at hl 0 rfl) ?_
          refine k_imul hC0 dL_law_741 ?_
          refine k_iadd hC0 dL_law_742 ?_
          refine lr_net (v := τ 40 (50 * la + 3 + 2 * j) 0) hK hA hN (by omega) (by rw [hτ8, nRmP_rd _ (by omega)]) dL_law_743 ?_
          refine lw_net hK hA hW hN hS (by omega) dL_law_744 (fun H locs hW hN hS => ?_)
          obtain ⟨τ11, hτ11⟩ : ∃ z, z = ups τ8 40 (((50 * la) + 1) + (2 * j)) 0 (τ 40 (50 * la + 3 + 2 * j) 0) := ⟨_, rfl⟩
          rw [← hτ11] at hN
          refine lv_aload_n hx hb dL_law_745 rfl (lv_at hl 8 rfl) ?_
          refine k_bipush hC0 dL_law_746 (by decide) ?_
          refine lv_iload hx hb dL_law_748 (lv_at hl 4 rfl) ?_
          refine k_imul hC0 dL_law_750 ?_
          refine k_iconst hC0 dL_law_751 ?_
          refine k_iadd hC0 dL_law_752 ?_
          refine k_iconst hC0 dL_law_753 ?_
          refine lv_iload hx hb dL_law_754 (lv_at hl 0 rfl) ?_
          refine k_imul hC0 dL_law_756 ?_
          refine k_iadd hC0 dL_law_757 ?_
          refine lv_aload_n hx hb dL_law_758 rfl (lv_at hl 8 rfl) ?_
          refine k_bipush hC0 dL_law_759 (by decide) ?_
          refine lv_iload hx hb dL_law_761 (lv_at hl 4 rfl) ?_
          refine k_imul hC0 dL_law_763 ?_
          refine k_iconst hC0 dL_law_764 ?_
          refine k_iadd hC0 dL_law_765 ?_
          refine k_iconst hC0 dL_law_766 ?_
          refine lv_iload hx hb dL_law_767 (lv_at hl 0 rfl) ?_
          refine k_imul hC0 dL_law_769 ?_
          refine k_iadd hC0 dL_law_770 ?_
          refine lr_net (v := τ 40 (50 * la + 4 + 2 * j) 0) hK hA hN (by omega) (by rw [hτ11, ups_i _ _ _ (by omega), hτ8, nRmP_rd _ (by omega)]) dL_law_771 ?_
          refine lw_net hK hA hW hN hS (by omega) dL_law_772 (fun H locs hW hN hS => ?_)
          obtain ⟨τ12, hτ12⟩ : ∃ z, z = ups τ11 40 (((50 * la) + 2) + (2 * j)) 0 (τ 40 (50 * la + 4 + 2 * j) 0) := ⟨_, rfl⟩
          rw [← hτ12] at hN
          refine k_iinc (a := j) (lv' := [(11, .int (zi (j + 1))), (10, .int (zi kv)), (9, .int (zi x9)), (8, .int (zi (σ 3 la 0))), (7, .int (zi la)), (6, .int (zi (8 * k))), (5, .int (zi k)), (4, .ref (ad2 21 0)), (3, .ref (ad2 20 0)), (2, .int (zi 1)), (1, .ref (ad1 0 0)), (0, .ref b)]) hC0 dL_law_773 hl (k := 0) rfl (by decide) rfl (fun ls hl => ?_)
          refine lv_goto (tgt := 710) hx hb dL_law_776 (by decide) ?_
          exact ih_710 (j + 1) (by omega) (by omega) _ _ hW (sw hN (by rw [hτ12, hτ11, hτ8]; exact nRmP_s τ (by omega))) hS _ (lv_sub hl [0, 1, 2, 3, 4, 5, 6, 7, 8, 9, 10, 11] rfl)
    exact loop_710 (Int.toNat (σ 3 la 0 - x9) + 1) x9 (by omega) (by omega) _ _ hW (sw hN (nRmP_0 τ la x9).symm) hS _ (lv_sub hl [0, 2, 3, 4, 5, 6, 7, 8, 9, 1, 10, 11] rfl)
end L31B
