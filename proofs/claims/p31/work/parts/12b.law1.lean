section L31A
set_option maxHeartbeats 4000000 in
set_option maxRecDepth 100000 in
theorem lt_ticks {p : Program} {l : Launch} {e : Env} {s : State} {m : MethodId} {below : List Frame} {meth : Method} {c : Code} {H : Heap} {locs : List Loc} {ls : Array Slot} {Dg : va_G} {cA : Nat → ClassId} {ad1 ad2 : Nat → Int → Nat} {oc : Nat → Nat} {b L a av : Nat} {xs : Nat → Int32} (hK : LK p l c s m meth b L xs Dg cA oc a av) (hA : LA ad1 ad2 s.heap.size) {N M k n la : Int} {σ κ τ : St} {C9 S9 : Nat} (hn : 1 ≤ n ∧ n ≤ 4) (hv : Inv N M κ) (hr : RA k κ τ) (hcs : C9 + 40 ≤ 600312 ∧ S9 + 240 ≤ 7292994) (hW : WP Dg ccnt ad1 (cE cA ad1 σ) H) (hN : WP Dg ncnt ad2 (nE cA ad2 τ) H) (hS : va_S (NA s.heap.size) s.heap H locs) (hl : lv_has ls 13 [(10, .int (zi 0)), (9, .int (zi n)), (7, .int (zi la)), (6, .int (zi (8 * k))), (5, .int (zi k)), (4, .ref (ad2 21 0)), (3, .ref (ad2 20 0)), (2, .int (zi 1)), (1, .ref (ad1 0 0)), (0, .ref b)]) (kk : (∀ (H : Heap) (locs : List Loc) (ls : Array Slot), WP Dg ccnt ad1 (cE cA ad1 σ) H → WP Dg ncnt ad2 (nE cA ad2 (nGo n.toNat τ)) H → va_S (NA s.heap.size) s.heap H locs → lv_has ls 13 [(9, .int (zi n)), (7, .int (zi la)), (6, .int (zi (8 * k))), (5, .int (zi k)), (4, .ref (ad2 21 0)), (3, .ref (ad2 20 0)), (2, .int (zi 1)), (1, .ref (ad1 0 0)), (0, .ref b)] → W p l e room_1 s m #[Value.ref b] below meth c H locs C9 S9 (lw_Z below #[Value.ref b] s) (F0 m 837 ls []))) : W p l e room_1 s m #[Value.ref b] below meth c H locs C9 S9 (lw_Z below #[Value.ref b] s) (F0 m 811 ls []) := by
  have hI : WI ccnt ad1 := hA.1.1
  have hI2 : WI ncnt ad2 := hA.2.1.1
  have hfl := hK.2.2.2.2.1
  have hC0 := hK.1.1
  have hx := hC0.1
  have hb := hC0.2.1
  have hts := hC0.2.2.2.1
  rcases hr with ⟨g1, g2⟩ | ⟨g1, g2⟩
  · have e0 : τ 41 0 0 = 0 := g2.2.2.2.2.2.2.2 0 (by decide) (by decide)
    refine lv_iload hx hb dL_law_811 (lv_at hl 0 rfl) ?_
    refine lv_iload hx hb dL_law_813 (lv_at hl 1 rfl) ?_
    refine k_icmp_ge (tgt := 837) hC0 dL_law_815 (by decide) (by omega) (fun c1 => absurd c1 (by omega)) (fun c1 => ?_)
    refine lv_aload hx hb dL_law_818 (lv_at hl 5 rfl) ?_
    refine k_iconst hC0 dL_law_820 ?_
    refine lr_h (v := τ 41 0 0) hK hA hN (by omega) rfl dL_law_821 ?_
    refine k_if_le (tgt := 837) hC0 dL_law_822 (by decide) (by omega) (fun c2 => ?_) (fun c2 => absurd c2 (by omega))
    exact kk H locs ls hW (sw hN (by unfold nGo; rw [if_neg (by omega)])) hS (lv_sub hl [1, 2, 3, 4, 5, 6, 7, 8, 9] rfl)
  · have e0 := g2.2.2.1.1
    have b5 := g2.2.1.1
    have loop_811 : ∀ (fuel : Nat) (t : Int), n - t < (fuel : Int) → (0 ≤ t ∧ t ≤ n) → ∀ (H : Heap) (locs : List Loc), WP Dg ccnt ad1 (cE cA ad1 σ) H → WP Dg ncnt ad2 (nE cA ad2 (nTurns t.toNat τ)) H → va_S (NA s.heap.size) s.heap H locs → ∀ ls : Array Slot, lv_has ls 13 [(10, .int (zi t)), (9, .int (zi n)), (7, .int (zi la)), (6, .int (zi (8 * k))), (5, .int (zi k)), (4, .ref (ad2 21 0)), (3, .ref (ad2 20 0)), (2, .int (zi 1)), (1, .ref (ad1 0 0)), (0, .ref b)] → W p l e room_1 s m #[Value.ref b] below meth c H locs C9 S9 (lw_Z below #[Value.ref b] s) (F0 m 811 ls []) := by
      intro fuel
      induction fuel with
      | zero => intro t hn i1; exact absurd hn (by omega)
      | succ fuel ih_811 =>
        intro t hn i1 H locs hW hN hS ls hl
        obtain ⟨τ3, hτ3⟩ : ∃ z, z = nTurns t.toNat τ := ⟨_, rfl⟩
        rw [← hτ3] at hN
        have hRt : R1 (fTick t.toNat κ) τ3 := by rw [hτ3]; exact R1_ticks hv g2 _
        have hvt : Inv N (M + 6 * (t.toNat : Int)) (fTick t.toNat κ) := Inv_fTick _ hv
        have e0 := hRt.2.2.1.1
        have b5 := hRt.2.1.1
        refine lv_iload hx hb dL_law_811 (lv_at hl 0 rfl) ?_
        refine lv_iload hx hb dL_law_813 (lv_at hl 1 rfl) ?_
        refine k_icmp_ge (tgt := 837) hC0 dL_law_815 (by decide) (by omega) (fun c4 => ?_) (fun c4 => ?_)
        · exact kk H locs ls hW (sw hN (by rw [hτ3]; unfold nGo; rw [if_pos (by omega), show t = n by omega])) hS (lv_sub hl [1, 2, 3, 4, 5, 6, 7, 8, 9] rfl)
        · refine lv_aload hx hb dL_law_818 (lv_at hl 5 rfl) ?_
          refine k_iconst hC0 dL_law_820 ?_
          refine lr_h (v := τ3 41 0 0) hK hA hN (by omega) rfl dL_law_821 ?_
          refine k_if_le (tgt := 837) hC0 dL_law_822 (by decide) (by omega) (fun c5 => absurd c5 (by omega)) (fun c5 => ?_)
          refine lv_aload_n hx hb dL_law_825 rfl (lv_at hl 6 rfl) ?_
          refine lv_aload hx hb dL_law_826 (lv_at hl 5 rfl) ?_
          refine l_nV (As := [.ref (ad2 20 0), .ref (ad2 21 0)]) (rest := []) hK hA hl.1 (n_turn hI2 τ3 hvt hRt) (cwS 2 hts gL_law_L_turn rfl rfl rfl (by decide +kernel) ⟨Nat.le_of_ble_eq_true rfl, Nat.le_of_ble_eq_true rfl⟩) hW hN hS ⟨by show C9 ≤ 600312; omega, by show S9 ≤ 7292994; omega⟩ rfl rfl (by decide) dL_law_828 (fun H locs hW hN hS => ?_)
          obtain ⟨τ6, hτ6⟩ : ∃ z, z = nTurn τ3 := ⟨_, rfl⟩
          rw [← hτ6] at hN
          refine k_iinc (a := t) (lv' := [(10, .int (zi (t + 1))), (9, .int (zi n)), (7, .int (zi la)), (6, .int (zi (8 * k))), (5, .int (zi k)), (4, .ref (ad2 21 0)), (3, .ref (ad2 20 0)), (2, .int (zi 1)), (1, .ref (ad1 0 0)), (0, .ref b)]) hC0 dL_law_831 hl (k := 0) rfl (by decide) rfl (fun ls hl => ?_)
          refine lv_goto (tgt := 811) hx hb dL_law_834 (by decide) ?_
          exact ih_811 (t + 1) (by omega) (by omega) _ _ hW (sw hN (by rw [hτ6, hτ3, show (t + 1).toNat = t.toNat + 1 by omega, nTurns_step])) hS _ (lv_sub hl [0, 1, 2, 3, 4, 5, 6, 7, 8, 9] rfl)
    exact loop_811 (Int.toNat (n - 0) + 1) 0 (by omega) (by omega) _ _ hW (sw hN (show τ = nTurns (Int.toNat 0) τ from rfl)) hS _ (lv_sub hl [0, 1, 2, 3, 4, 5, 6, 7, 8, 9] rfl)

set_option maxHeartbeats 4000000 in
set_option maxRecDepth 100000 in
theorem lt_waits {p : Program} {l : Launch} {e : Env} {s : State} {m : MethodId} {below : List Frame} {meth : Method} {c : Code} {H : Heap} {locs : List Loc} {ls : Array Slot} {Dg : va_G} {cA : Nat → ClassId} {ad1 ad2 : Nat → Int → Nat} {oc : Nat → Nat} {b L a av : Nat} {xs : Nat → Int32} (hK : LK p l c s m meth b L xs Dg cA oc a av) (hA : LA ad1 ad2 s.heap.size) {k n la M9 : Int} {σ τ : St} {C9 S9 : Nat} (ha : 0 ≤ la ∧ la < 3) (hM9 : τ 40 (50 * la) 0 = M9 ∧ 0 ≤ M9 ∧ M9 ≤ 20) (hkd : ∀ j : Int, 0 ≤ j → j < M9 → -2147483648 ≤ τ 40 (50 * la + 1 + 2 * j) 0 ∧ τ 40 (50 * la + 1 + 2 * j) 0 < 2147483648) (hcs : C9 + 40 ≤ 600312 ∧ S9 + 240 ≤ 7292994) (hW : WP Dg ccnt ad1 (cE cA ad1 σ) H) (hN : WP Dg ncnt ad2 (nE cA ad2 τ) H) (hS : va_S (NA s.heap.size) s.heap H locs) (hl : lv_has ls 13 [(9, .int (zi n)), (7, .int (zi la)), (6, .int (zi (8 * k))), (5, .int (zi k)), (4, .ref (ad2 21 0)), (3, .ref (ad2 20 0)), (2, .int (zi 1)), (1, .ref (ad1 0 0)), (0, .ref b)]) (kk : (∀ (H : Heap) (locs : List Loc) (ls : Array Slot), WP Dg ccnt ad1 (cE cA ad1 σ) H → WP Dg ncnt ad2 (nE cA ad2 τ) H → va_S (NA s.heap.size) s.heap H locs → lv_has ls 13 [(10, .int (zi (cN (fun j => decide (τ 40 (50 * la + 1 + 2 * j) 0 = 119)) M9))), (9, .int (zi n)), (7, .int (zi la)), (6, .int (zi (8 * k))), (5, .int (zi k)), (4, .ref (ad2 21 0)), (3, .ref (ad2 20 0)), (2, .int (zi 1)), (1, .ref (ad1 0 0)), (0, .ref b)] → W p l e room_1 s m #[Value.ref b] below meth c H locs C9 S9 (lw_Z below #[Value.ref b] s) (F0 m 890 ls []))) : W p l e room_1 s m #[Value.ref b] below meth c H locs C9 S9 (lw_Z below #[Value.ref b] s) (F0 m 837 ls []) := by
  have hI : WI ccnt ad1 := hA.1.1
  have hI2 : WI ncnt ad2 := hA.2.1.1
  have hfl := hK.2.2.2.2.1
  have hC0 := hK.1.1
  have hx := hC0.1
  have hb := hC0.2.1
  have hts := hC0.2.2.2.1
  refine k_iconst hC0 dL_law_837 ?_
  refine lv_istore (lv' := [(10, .int (zi 0)), (9, .int (zi n)), (7, .int (zi la)), (6, .int (zi (8 * k))), (5, .int (zi k)), (4, .ref (ad2 21 0)), (3, .ref (ad2 20 0)), (2, .int (zi 1)), (1, .ref (ad1 0 0)), (0, .ref b)]) hx hb dL_law_838 hl (by decide) rfl (fun ls hl => ?_)
  refine k_iconst hC0 dL_law_840 ?_
  refine lv_istore (lv' := [(11, .int (zi 0)), (10, .int (zi 0)), (9, .int (zi n)), (7, .int (zi la)), (6, .int (zi (8 * k))), (5, .int (zi k)), (4, .ref (ad2 21 0)), (3, .ref (ad2 20 0)), (2, .int (zi 1)), (1, .ref (ad1 0 0)), (0, .ref b)]) hx hb dL_law_841 hl (by decide) rfl (fun ls hl => ?_)
  have loop_843 : ∀ (fuel : Nat) (j : Int) (f : Int), M9 - j < (fuel : Int) → (0 ≤ j ∧ j ≤ M9) → (f = cN (fun j => decide (τ 40 (50 * la + 1 + 2 * j) 0 = 119)) j) → ∀ (H : Heap) (locs : List Loc), WP Dg ccnt ad1 (cE cA ad1 σ) H → WP Dg ncnt ad2 (nE cA ad2 τ) H → va_S (NA s.heap.size) s.heap H locs → ∀ ls : Array Slot, lv_has ls 13 [(11, .int (zi j)), (10, .int (zi f)), (9, .int (zi n)), (7, .int (zi la)), (6, .int (zi (8 * k))), (5, .int (zi k)), (4, .ref (ad2 21 0)), (3, .ref (ad2 20 0)), (2, .int (zi 1)), (1, .ref (ad1 0 0)), (0, .ref b)] → W p l e room_1 s m #[Value.ref b] below meth c H locs C9 S9 (lw_Z below #[Value.ref b] s) (F0 m 843 ls []) := by
    intro fuel
    induction fuel with
    | zero => intro j f hn i1 i2; exact absurd hn (by omega)
    | succ fuel ih_843 =>
      intro j f hn i1 i2 H locs hW hN hS ls hl
      refine lv_iload hx hb dL_law_843 (lv_at hl 0 rfl) ?_
      refine lv_aload_n hx hb dL_law_845 rfl (lv_at hl 7 rfl) ?_
      refine k_bipush hC0 dL_law_846 (by decide) ?_
      refine lv_iload hx hb dL_law_848 (lv_at hl 3 rfl) ?_
      refine k_imul hC0 dL_law_850 ?_
      refine lr_net (v := M9) hK hA hN (by omega) hM9.1 dL_law_851 ?_
      refine k_icmp_ge (tgt := 890) hC0 dL_law_852 (by decide) (by omega) (fun c1 => ?_) (fun c1 => ?_)
      · have hl := Eq.mp (congrArg (fun z : Int => lv_has ls 13 [(11, .int (zi j)), (10, .int (zi z)), (9, .int (zi n)), (7, .int (zi la)), (6, .int (zi (8 * k))), (5, .int (zi k)), (4, .ref (ad2 21 0)), (3, .ref (ad2 20 0)), (2, .int (zi 1)), (1, .ref (ad1 0 0)), (0, .ref b)]) (show (f : Int) = cN (fun j => decide (τ 40 (50 * la + 1 + 2 * j) 0 = 119)) M9 from (by rw [i2, show j = M9 by omega]))) hl
        exact kk H locs ls hW hN hS (lv_sub hl [1, 2, 3, 4, 5, 6, 7, 8, 9, 10] rfl)
      · have hq := hkd j (by omega) (by omega)
        refine lv_iload hx hb dL_law_855 (lv_at hl 1 rfl) ?_
        refine lv_aload_n hx hb dL_law_857 rfl (lv_at hl 7 rfl) ?_
        refine k_bipush hC0 dL_law_858 (by decide) ?_
        refine lv_iload hx hb dL_law_860 (lv_at hl 3 rfl) ?_
        refine k_imul hC0 dL_law_862 ?_
        refine k_iconst hC0 dL_law_863 ?_
        refine k_iadd hC0 dL_law_864 ?_
        refine k_iconst hC0 dL_law_865 ?_
        refine lv_iload hx hb dL_law_866 (lv_at hl 0 rfl) ?_
        refine k_imul hC0 dL_law_868 ?_
        refine k_iadd hC0 dL_law_869 ?_
        refine lr_net (v := τ 40 (((50 * la) + 1) + (2 * j)) 0) hK hA hN (by omega) rfl dL_law_870 ?_
        refine k_bipush hC0 dL_law_871 (by decide) ?_
        refine k_icmp_ne (tgt := 880) hC0 dL_law_873 (by decide) (by omega) (fun c2 => ?_) (fun c2 => ?_)
        · refine k_iconst hC0 dL_law_880 ?_
          refine k_iadd hC0 dL_law_881 ?_
          refine lv_istore (lv' := [(10, .int (zi (f + 0))), (11, .int (zi j)), (9, .int (zi n)), (7, .int (zi la)), (6, .int (zi (8 * k))), (5, .int (zi k)), (4, .ref (ad2 21 0)), (3, .ref (ad2 20 0)), (2, .int (zi 1)), (1, .ref (ad1 0 0)), (0, .ref b)]) hx hb dL_law_882 hl (by decide) rfl (fun ls hl => ?_)
          refine k_iinc (a := j) (lv' := [(11, .int (zi (j + 1))), (10, .int (zi (f + 0))), (9, .int (zi n)), (7, .int (zi la)), (6, .int (zi (8 * k))), (5, .int (zi k)), (4, .ref (ad2 21 0)), (3, .ref (ad2 20 0)), (2, .int (zi 1)), (1, .ref (ad1 0 0)), (0, .ref b)]) hC0 dL_law_884 hl (k := 1) rfl (by decide) rfl (fun ls hl => ?_)
          refine lv_goto (tgt := 843) hx hb dL_law_887 (by decide) ?_
          exact ih_843 (j + 1) (f + 0) (by omega) (by omega) (by first | rw [cN_t _ i1.1 (decide_eq_true (by omega)), i2] | rw [cN_f _ i1.1 (decide_eq_false (by omega)), i2, Int.add_zero]) _ _ hW hN hS _ (lv_sub hl [0, 1, 2, 3, 4, 5, 6, 7, 8, 9, 10] rfl)
        · refine k_iconst hC0 dL_law_876 ?_
          refine lv_goto (tgt := 881) hx hb dL_law_877 (by decide) ?_
          refine k_iadd hC0 dL_law_881 ?_
          refine lv_istore (lv' := [(10, .int (zi (f + 1))), (11, .int (zi j)), (9, .int (zi n)), (7, .int (zi la)), (6, .int (zi (8 * k))), (5, .int (zi k)), (4, .ref (ad2 21 0)), (3, .ref (ad2 20 0)), (2, .int (zi 1)), (1, .ref (ad1 0 0)), (0, .ref b)]) hx hb dL_law_882 hl (by decide) rfl (fun ls hl => ?_)
          refine k_iinc (a := j) (lv' := [(11, .int (zi (j + 1))), (10, .int (zi (f + 1))), (9, .int (zi n)), (7, .int (zi la)), (6, .int (zi (8 * k))), (5, .int (zi k)), (4, .ref (ad2 21 0)), (3, .ref (ad2 20 0)), (2, .int (zi 1)), (1, .ref (ad1 0 0)), (0, .ref b)]) hC0 dL_law_884 hl (k := 1) rfl (by decide) rfl (fun ls hl => ?_)
          refine lv_goto (tgt := 843) hx hb dL_law_887 (by decide) ?_
          exact ih_843 (j + 1) (f + 1) (by omega) (by omega) (by first | rw [cN_t _ i1.1 (decide_eq_true (by omega)), i2] | rw [cN_f _ i1.1 (decide_eq_false (by omega)), i2, Int.add_zero]) _ _ hW hN hS _ (lv_sub hl [0, 1, 2, 3, 4, 5, 6, 7, 8, 9, 10] rfl)
  exact loop_843 (Int.toNat (M9 - 0) + 1) 0 0 (by omega) (by omega) rfl _ _ hW hN hS _ (lv_sub hl [0, 1, 2, 3, 4, 5, 6, 7, 8, 9, 10] rfl)

set_option maxHeartbeats 4000000 in
set_option maxRecDepth 100000 in
theorem lt_rest {p : Program} {l : Launch} {e : Env} {s : State} {m : MethodId} {below : List Frame} {meth : Method} {c : Code} {H : Heap} {locs : List Loc} {ls : Array Slot} {Dg : va_G} {cA : Nat → ClassId} {ad1 ad2 : Nat → Int → Nat} {oc : Nat → Nat} {b L a av : Nat} {xs : Nat → Int32} (hK : LK p l c s m meth b L xs Dg cA oc a av) (hA : LA ad1 ad2 s.heap.size) {N M k la : Int} {σ τ : St} {C9 S9 : Nat} (hk : 0 ≤ k ∧ k < 40) (ha : 0 ≤ la ∧ la < 3) (hv : Inv N M σ) (hNn : N ≤ 1000000) (hr : RA k σ τ) (h29 : 0 ≤ σ 29 0 0 ∧ σ 29 0 0 ≤ 32 * k) (hcs : C9 + 40 ≤ 600312 ∧ S9 + 240 ≤ 7292994) (hW : WP Dg ccnt ad1 (cE cA ad1 σ) H) (hN : WP Dg ncnt ad2 (nE cA ad2 τ) H) (hS : va_S (NA s.heap.size) s.heap H locs) (hl : lv_has ls 13 [(7, .int (zi la)), (6, .int (zi (8 * k))), (5, .int (zi k)), (4, .ref (ad2 21 0)), (3, .ref (ad2 20 0)), (2, .int (zi 1)), (1, .ref (ad1 0 0)), (0, .ref b)]) (kk : (∀ (σ1 : St) (τ1 : St) (H : Heap) (locs : List Loc) (ls : Array Slot), (Inv N (M + 24) σ1) → (RK (k + 1) σ1 τ1) → (0 ≤ σ1 29 0 0 ∧ σ1 29 0 0 ≤ 32 * (k + 1)) → WP Dg ccnt ad1 (cE cA ad1 σ1) H → WP Dg ncnt ad2 (nE cA ad2 τ1) H → va_S (NA s.heap.size) s.heap H locs → lv_has ls 13 [(5, .int (zi k)), (4, .ref (ad2 21 0)), (3, .ref (ad2 20 0)), (2, .int (zi 1)), (1, .ref (ad1 0 0)), (0, .ref b)] → W p l e room_1 s m #[Value.ref b] below meth c H locs (C9 + 10) (S9 + 60) (lw_Z below #[Value.ref b] s) (F0 m 1046 ls []))) : W p l e room_1 s m #[Value.ref b] below meth c H locs C9 S9 (lw_Z below #[Value.ref b] s) (F0 m 790 ls []) := by
  have hI : WI ccnt ad1 := hA.1.1
  have hI2 : WI ncnt ad2 := hA.2.1.1
  have hfl := hK.2.2.2.2.1
  have hC0 := hK.1.1
  have hx := hC0.1
  have hb := hC0.2.1
  have hts := hC0.2.2.2.1
  refine k_iconst hC0 dL_law_790 ?_
  refine lv_aload_n hx hb dL_law_791 rfl (lv_at hl 7 rfl) ?_
  refine lv_iload hx hb dL_law_792 (lv_at hl 1 rfl) ?_
  refine k_iconst hC0 dL_law_794 ?_
  refine k_iadd hC0 dL_law_795 ?_
  refine k_iconst hC0 dL_law_796 ?_
  refine l_in hK (by omega) (by omega) hl.1 hW hN hS ⟨by show C9 ≤ 600312; omega, by show S9 ≤ 7292994; omega⟩ (Nat.le_of_ble_eq_true rfl) dL_law_797 (fun H locs r9 hr9 hW hN hS => ?_)
  obtain ⟨n, hn9⟩ : ∃ z : Int, z = 1 + r9 := ⟨_, rfl⟩
  have hn : 1 ≤ n ∧ n ≤ 4 := by omega
  refine k_iadd hC0 dL_law_800 ?_
  refine k_top0 (show (1 + r9 : Int) = n from hn9.symm) ?_
  refine lv_istore (lv' := [(9, .int (zi n)), (7, .int (zi la)), (6, .int (zi (8 * k))), (5, .int (zi k)), (4, .ref (ad2 21 0)), (3, .ref (ad2 20 0)), (2, .int (zi 1)), (1, .ref (ad1 0 0)), (0, .ref b)]) hx hb dL_law_801 hl (by decide) rfl (fun ls hl => ?_)
  refine lv_aload hx hb dL_law_803 (lv_at hl 4 rfl) ?_
  refine k_iconst hC0 dL_law_805 ?_
  refine k_iconst hC0 dL_law_806 ?_
  refine lw_h hK hA hW hN hS (by omega) dL_law_807 (fun H locs hW hN hS => ?_)
  obtain ⟨τ1, hτ1⟩ : ∃ z, z = ups τ 41 4 0 0 := ⟨_, rfl⟩
  rw [← hτ1] at hN
  have hr1 : RA k (ups σ 30 0 0 0) τ1 := by rw [hτ1]; exact RA_30 hr
  have hv1 : Inv N M (ups σ 30 0 0 0) := Inv_o30 hv
  refine k_iconst hC0 dL_law_808 ?_
  refine lv_istore (lv' := [(10, .int (zi 0)), (9, .int (zi n)), (7, .int (zi la)), (6, .int (zi (8 * k))), (5, .int (zi k)), (4, .ref (ad2 21 0)), (3, .ref (ad2 20 0)), (2, .int (zi 1)), (1, .ref (ad1 0 0)), (0, .ref b)]) hx hb dL_law_809 hl (by decide) rfl (fun ls hl => ?_)
  refine lt_ticks hK hA (N := N) (M := M) (k := k) (κ := ups σ 30 0 0 0) hn hv1 hr1 ⟨by omega, by omega⟩ hW hN hS (lv_sub hl [0, 1, 2, 3, 4, 5, 6, 7, 8, 9] rfl) (fun H locs ls hW hN hS hl => ?_)
  obtain ⟨υ, hυ⟩ : ∃ z, z = nGo n.toNat τ1 := ⟨_, rfl⟩
  rw [← hυ] at hN
  obtain ⟨φ, hφ⟩ : ∃ z, z = fTick n.toNat (ups σ 30 0 0 0) := ⟨_, rfl⟩
  have hK2 : RK (k + 1) φ υ := by rw [hφ, hυ]; exact RA_go hv1 hr1 n.toNat
  obtain ⟨hn4, hn5⟩ := RK_nums hK2
  obtain ⟨q26, q27, q28, q12, q13⟩ := hK2.Q
  have hv2 : Inv N (M + 24) φ := by rw [hφ]; exact Inv_mono (Inv_fTick n.toNat hv1) (by omega) (by omega)
  have u29 : ups σ 30 0 0 0 29 0 0 = σ 29 0 0 := ups_t _ (by decide) _ _ _ _ _
  have h92 := RA_29 hv1 hr1 n.toNat
  rw [← hφ] at h92
  obtain ⟨m0, m1, m2⟩ := hK2.L la ha.1 ha.2
  refine lt_waits hK hA (M9 := φ 3 la 0) ha ⟨m1, m0.1, m0.2⟩ (fun j j0 j1 => by rw [(m2 j j0 j1).1]; have z := ((hv2.R la (by omega) (by omega)).2 j j0 (by omega)).1; omega) ⟨by omega, by omega⟩ hW hN hS hl (fun H locs ls hW hN hS hl => ?_)
  refine lv_iload_n hx hb dL_law_890 rfl (lv_at hl 7 rfl) ?_
  refine lv_aload_n hx hb dL_law_891 rfl (lv_at hl 8 rfl) ?_
  refine lv_iload hx hb dL_law_892 (lv_at hl 1 rfl) ?_
  refine l_w (As := [.ref (ad1 0 0), .int (zi n)]) (rest := [.int (zi 1)]) hK hA hl.1 (w_tick hI hfl σ n hv (by omega) (by omega)) (vx_cwSW 2 hts gL_law_L_tick rfl rfl rfl (by decide +kernel) ⟨Nat.le_of_ble_eq_true rfl, Nat.le_of_ble_eq_true rfl⟩) hW hN hS ⟨by show C9 + 1 ≤ 600312; omega, by show S9 + 6 ≤ 7292994; omega⟩ rfl rfl (by decide) dL_law_894 (fun H locs hW hN hS => ?_)
  rw [← hφ] at hW
  refine k_top0 (show (fTick n.toNat (ups σ 30 0 0 0) 30 0 0 : Int) = φ 30 0 0 from (by rw [hφ])) ?_
  refine lv_aload hx hb dL_law_897 (lv_at hl 5 rfl) ?_
  refine k_iconst hC0 dL_law_899 ?_
  refine lr_h (v := υ 41 4 0) hK hA hN (by omega) rfl dL_law_900 ?_
  refine k_same hC0 hn4.symm dL_law_901 (tgt := 947) (by decide) ?_
  refine lv_aload_n hx hb dL_law_904 rfl (lv_at hl 8 rfl) ?_
  refine l_cL (As := []) (rest := [.int (zi 1)]) hK hA hl.1 (m_done hI φ) (cwV 0 hts gL_law_X7_done rfl rfl rfl (by decide +kernel) ⟨Nat.le_of_ble_eq_true rfl, Nat.le_of_ble_eq_true rfl⟩) (rc_KR (hK.kc hA.1).1 hW) hW hN hS ⟨by show C9 + 1 ≤ 600312; omega, by show S9 + 6 ≤ 7292994; omega⟩ rfl rfl (by decide) dL_law_905 (fun H locs hW hN hS => ?_)
  refine lv_aload hx hb dL_law_908 (lv_at hl 5 rfl) ?_
  refine k_iconst hC0 dL_law_910 ?_
  refine lr_h (v := υ 41 5 0) hK hA hN (by omega) rfl dL_law_911 ?_
  refine k_i2l hC0 dL_law_912 (by omega) ?_
  refine l_lcmp hx hb (by rw [hn5]) dL_law_913 ?_
  refine k_if_ne (tgt := 947) hC0 dL_law_914 (by decide) (by omega) (fun c3 => absurd c3 (by omega)) (fun c3 => ?_)
  refine lv_aload_n hx hb dL_law_917 rfl (lv_at hl 8 rfl) ?_
  refine lv_iload hx hb dL_law_918 (lv_at hl 2 rfl) ?_
  refine k_bipush hC0 dL_law_920 (by decide) ?_
  refine l_w (As := [.ref (ad1 0 0), .int (zi la), .int (zi 119)]) (rest := [.int (zi 1)]) hK hA hl.1 (w_lines hI hfl φ la 119 hv2 (by omega) (by omega) (by decide)) (vx_cwSW 3 hts gL_law_L_lines rfl rfl rfl (by decide +kernel) ⟨Nat.le_of_ble_eq_true rfl, Nat.le_of_ble_eq_true rfl⟩) hW hN hS ⟨by show C9 + 1 + 1 ≤ 600312; omega, by show S9 + 6 + 6 ≤ 7292994; omega⟩ rfl rfl (by decide) dL_law_922 (fun H locs hW hN hS => ?_)
  refine lv_iload hx hb dL_law_925 (lv_at hl 0 rfl) ?_
  refine k_same hC0 (waits_eq hK2.L ha) dL_law_927 (tgt := 947) (by decide) ?_
  refine lv_aload_n hx hb dL_law_930 rfl (lv_at hl 8 rfl) ?_
  refine lv_iload hx hb dL_law_931 (lv_at hl 2 rfl) ?_
  refine k_bipush hC0 dL_law_933 (by decide) ?_
  refine l_w (As := [.ref (ad1 0 0), .int (zi la), .int (zi 113)]) (rest := [.int (zi 1)]) hK hA hl.1 (w_lines_k hI hfl φ la 113 hv2 (by omega) (by omega) (by decide)) (vx_cwSW 3 hts gL_law_L_lines rfl rfl rfl (by decide +kernel) ⟨Nat.le_of_ble_eq_true rfl, Nat.le_of_ble_eq_true rfl⟩) hW hN hS ⟨by show C9 + 1 + 1 + 1 ≤ 600312; omega, by show S9 + 6 + 6 + 6 ≤ 7292994; omega⟩ rfl rfl (by decide) dL_law_935 (fun H locs hW hN hS => ?_)
  refine k_ldc (n := (-900002)) hC0 (by decide) (hts (.constant RL 26 (-900002)) (by decide +kernel)) dL_law_938 ?_
  refine k_same hC0 rfl dL_law_940 (tgt := 947) (by decide) ?_
  refine k_iconst hC0 dL_law_943 ?_
  refine lv_goto (tgt := 948) hx hb dL_law_944 (by decide) ?_
  refine l_iand1 hx hb dL_law_948 ?_
  refine lv_istore_n (lv' := [(2, .int (zi 1)), (10, .int (zi (cN (fun j => decide (υ 40 (50 * la + 1 + 2 * j) 0 = 119)) (φ 3 la 0)))), (9, .int (zi n)), (7, .int (zi la)), (6, .int (zi (8 * k))), (5, .int (zi k)), (4, .ref (ad2 21 0)), (3, .ref (ad2 20 0)), (1, .ref (ad1 0 0)), (0, .ref b)]) hx hb dL_law_949 rfl hl (by decide) rfl (fun ls hl => ?_)
  rcases id hK2 with ⟨g1, g2⟩ | ⟨g1, g2⟩
  · have e0 : υ 41 0 0 = 0 := g2.2.2.2.2.2.2.2 0 (by decide) (by decide)
    refine lv_aload hx hb dL_law_950 (lv_at hl 6 rfl) ?_
    refine k_iconst hC0 dL_law_952 ?_
    refine lr_h (v := υ 41 0 0) hK hA hN (by omega) rfl dL_law_953 ?_
    refine k_if_le (tgt := 1046) hC0 dL_law_954 (by decide) (by omega) (fun c6 => ?_) (fun c6 => absurd c6 (by omega))
    refine W.widen (k := C9 + 10) (n := S9 + 60) (by omega) (by omega) ?_
    exact kk φ υ H locs ls hv2 hK2 ⟨by omega, by omega⟩ hW hN hS (lv_sub hl [5, 6, 7, 0, 8, 9] rfl)
  · have e5 := g2.2.2.1.1
    have b5 := g2.2.1.1
    have et := top_eq g2
    obtain ⟨p0, p1, p2, -⟩ := top_pg g2
    refine lv_aload hx hb dL_law_950 (lv_at hl 6 rfl) ?_
    refine k_iconst hC0 dL_law_952 ?_
    refine lr_h (v := υ 41 0 0) hK hA hN (by omega) rfl dL_law_953 ?_
    refine k_if_le (tgt := 1046) hC0 dL_law_954 (by decide) (by omega) (fun c7 => absurd c7 (by omega)) (fun c7 => ?_)
    refine k_sipush hC0 dL_law_957 (by decide) ?_
    refine k_bipush hC0 dL_law_960 (by decide) ?_
    refine lv_aload hx hb dL_law_962 (lv_at hl 6 rfl) ?_
    refine k_iconst hC0 dL_law_964 ?_
    refine lr_h (v := υ 41 0 0) hK hA hN (by omega) rfl dL_law_965 ?_
    refine k_iconst hC0 dL_law_966 ?_
    refine k_isub hC0 dL_law_967 ?_
    refine k_imul hC0 dL_law_968 ?_
    refine k_iadd hC0 dL_law_969 ?_
    refine k_top0 (show (1000 + (50 * ((υ 41 0 0) - 1)) : Int) = nTop υ from rfl) ?_
    refine lv_istore (lv' := [(11, .int (zi (nTop υ))), (2, .int (zi 1)), (10, .int (zi (cN (fun j => decide (υ 40 (50 * la + 1 + 2 * j) 0 = 119)) (φ 3 la 0)))), (9, .int (zi n)), (7, .int (zi la)), (6, .int (zi (8 * k))), (5, .int (zi k)), (4, .ref (ad2 21 0)), (3, .ref (ad2 20 0)), (1, .ref (ad1 0 0)), (0, .ref b)]) hx hb dL_law_970 hl (by decide) rfl (fun ls hl => ?_)
    refine lv_iload_n hx hb dL_law_972 rfl (lv_at hl 1 rfl) ?_
    refine lv_aload_n hx hb dL_law_973 rfl (lv_at hl 9 rfl) ?_
    refine k_iconst hC0 dL_law_974 ?_
    refine l_w (As := [.ref (ad1 0 0), .int (zi 0)]) (rest := [.int (zi 1)]) hK hA hl.1 (w_next hI hfl φ 0 hv2 (by omega) g2.2.2.2.2.2.1) (vx_cwSW 2 hts gL_law_L_next rfl rfl rfl (by decide +kernel) ⟨Nat.le_of_ble_eq_true rfl, Nat.le_of_ble_eq_true rfl⟩) hW hN hS ⟨by show C9 + 1 + 1 + 1 + 1 ≤ 600312; omega, by show S9 + 6 + 6 + 6 + 6 ≤ 7292994; omega⟩ rfl rfl (by decide) dL_law_975 (fun H locs hW hN hS => ?_)
    refine k_bipush hC0 dL_law_978 (by decide) ?_
    refine lv_aload hx hb dL_law_980 (lv_at hl 7 rfl) ?_
    refine k_iconst hC0 dL_law_982 ?_
    refine lr_h (v := υ 41 0 0) hK hA hN (by omega) rfl dL_law_983 ?_
    refine k_imul hC0 dL_law_984 ?_
    refine lv_aload_n hx hb dL_law_985 rfl (lv_at hl 8 rfl) ?_
    refine lv_iload hx hb dL_law_986 (lv_at hl 0 rfl) ?_
    refine k_bipush hC0 dL_law_988 (by decide) ?_
    refine k_iadd hC0 dL_law_990 ?_
    refine lr_net (v := υ 40 ((nTop υ) + 49) 0) hK hA hN (by omega) rfl dL_law_991 ?_
    refine k_iadd hC0 dL_law_992 ?_
    refine k_same hC0 (by rw [e5, et, p2]) dL_law_993 (tgt := 1043) (by decide) ?_
    refine lv_aload_n hx hb dL_law_996 rfl (lv_at hl 9 rfl) ?_
    refine k_iconst hC0 dL_law_997 ?_
    refine l_w (As := [.ref (ad1 0 0), .int (zi 0)]) (rest := [.int (zi 1)]) hK hA hl.1 (w_count hI hfl φ 0 hv2 (by omega) g2.2.2.2.2.2.1) (vx_cwSW 2 hts gL_law_L_count rfl rfl rfl (by decide +kernel) ⟨Nat.le_of_ble_eq_true rfl, Nat.le_of_ble_eq_true rfl⟩) hW hN hS ⟨by show C9 + 1 + 1 + 1 + 1 + 1 ≤ 600312; omega, by show S9 + 6 + 6 + 6 + 6 + 6 ≤ 7292994; omega⟩ rfl rfl (by decide) dL_law_998 (fun H locs hW hN hS => ?_)
    refine lv_aload hx hb dL_law_1001 (lv_at hl 7 rfl) ?_
    refine k_iconst hC0 dL_law_1003 ?_
    refine lr_h (v := υ 41 1 0) hK hA hN (by omega) rfl dL_law_1004 ?_
    refine k_same hC0 g2.2.2.1.2.1.symm dL_law_1005 (tgt := 1043) (by decide) ?_
    refine lv_aload_n hx hb dL_law_1008 rfl (lv_at hl 9 rfl) ?_
    refine k_iconst hC0 dL_law_1009 ?_
    refine l_w (As := [.ref (ad1 0 0), .int (zi 0)]) (rest := [.int (zi 1)]) hK hA hl.1 (w_waits hI hfl φ 0 hv2 (by omega) g2.2.2.2.2.2.1) (vx_cwSW 2 hts gL_law_L_waits rfl rfl rfl (by decide +kernel) ⟨Nat.le_of_ble_eq_true rfl, Nat.le_of_ble_eq_true rfl⟩) hW hN hS ⟨by show C9 + 1 + 1 + 1 + 1 + 1 + 1 ≤ 600312; omega, by show S9 + 6 + 6 + 6 + 6 + 6 + 6 ≤ 7292994; omega⟩ rfl rfl (by decide) dL_law_1010 (fun H locs hW hN hS => ?_)
    refine k_top0 (show (if φ 11 0 0 ≠ -1 then 100 else φ 10 0 0 : Int) = φ 10 0 0 from (if_neg (fun z => z g2.2.2.2.2.2.2.2.1))) ?_
    refine lv_aload hx hb dL_law_1013 (lv_at hl 7 rfl) ?_
    refine k_iconst hC0 dL_law_1015 ?_
    refine lr_h (v := υ 41 2 0) hK hA hN (by omega) rfl dL_law_1016 ?_
    refine k_same hC0 g2.2.2.1.2.2.1.symm dL_law_1017 (tgt := 1043) (by decide) ?_
    refine lv_aload hx hb dL_law_1020 (lv_at hl 7 rfl) ?_
    refine k_iconst hC0 dL_law_1022 ?_
    refine lr_h (v := υ 41 4 0) hK hA hN (by omega) rfl dL_law_1023 ?_
    refine lv_if_eq (tgt := 1039) hx hb dL_law_1024 (by decide) (fun c11 => ?_) (fun c11 => ?_)
    · refine k_iconst hC0 dL_law_1039 ?_
      refine lv_goto (tgt := 1044) hx hb dL_law_1040 (by decide) ?_
      refine l_iand1 hx hb dL_law_1044 ?_
      refine lv_istore_n (lv' := [(2, .int (zi 1)), (11, .int (zi (nTop υ))), (10, .int (zi (cN (fun j => decide (υ 40 (50 * la + 1 + 2 * j) 0 = 119)) (φ 3 la 0)))), (9, .int (zi n)), (7, .int (zi la)), (6, .int (zi (8 * k))), (5, .int (zi k)), (4, .ref (ad2 21 0)), (3, .ref (ad2 20 0)), (1, .ref (ad1 0 0)), (0, .ref b)]) hx hb dL_law_1045 rfl hl (by decide) rfl (fun ls hl => ?_)
      refine W.widen (k := C9 + 10) (n := S9 + 60) (by omega) (by omega) ?_
      exact kk φ υ H locs ls hv2 hK2 ⟨by omega, by omega⟩ hW hN hS (lv_sub hl [6, 7, 8, 0, 9, 10] rfl)
    · have s15 := g2.2.2.1.2.2.2.2.2.2.2 (fun z => c11 (by rw [hn4, z]; rfl))
      refine lv_aload_n hx hb dL_law_1027 rfl (lv_at hl 9 rfl) ?_
      refine k_iconst hC0 dL_law_1028 ?_
      refine l_w (As := [.ref (ad1 0 0), .int (zi 0)]) (rest := [.int (zi 1)]) hK hA hl.1 (w_slide hI hfl φ 0 hv2 (by omega) (by omega)) (vx_cwSW 2 hts gL_law_L_slide rfl rfl rfl (by decide +kernel) ⟨Nat.le_of_ble_eq_true rfl, Nat.le_of_ble_eq_true rfl⟩) hW hN hS ⟨by show C9 + 1 + 1 + 1 + 1 + 1 + 1 + 1 ≤ 600312; omega, by show S9 + 6 + 6 + 6 + 6 + 6 + 6 + 6 ≤ 7292994; omega⟩ rfl rfl (by decide) dL_law_1029 (fun H locs hW hN hS => ?_)
      refine lv_aload hx hb dL_law_1032 (lv_at hl 7 rfl) ?_
      refine k_iconst hC0 dL_law_1034 ?_
      refine lr_h (v := υ 41 3 0) hK hA hN (by omega) rfl dL_law_1035 ?_
      refine k_same hC0 s15.1.symm dL_law_1036 (tgt := 1043) (by decide) ?_
      refine k_iconst hC0 dL_law_1039 ?_
      refine lv_goto (tgt := 1044) hx hb dL_law_1040 (by decide) ?_
      refine l_iand1 hx hb dL_law_1044 ?_
      refine lv_istore_n (lv' := [(2, .int (zi 1)), (11, .int (zi (nTop υ))), (10, .int (zi (cN (fun j => decide (υ 40 (50 * la + 1 + 2 * j) 0 = 119)) (φ 3 la 0)))), (9, .int (zi n)), (7, .int (zi la)), (6, .int (zi (8 * k))), (5, .int (zi k)), (4, .ref (ad2 21 0)), (3, .ref (ad2 20 0)), (1, .ref (ad1 0 0)), (0, .ref b)]) hx hb dL_law_1045 rfl hl (by decide) rfl (fun ls hl => ?_)
      refine W.widen (k := C9 + 10) (n := S9 + 60) (by omega) (by omega) ?_
      exact kk φ υ H locs ls hv2 hK2 ⟨by omega, by omega⟩ hW hN hS (lv_sub hl [6, 7, 8, 0, 9, 10] rfl)
end L31A
