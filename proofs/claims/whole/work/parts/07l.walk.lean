section M12
set_option maxHeartbeats 1000000 in
set_option maxRecDepth 100000 in
theorem m_heldShare {l : Launch} {Dg : va_G} {cA : Nat → ClassId} {ad : Nat → Int → Nat} {oc : Nat → Nat} (hI : WI ccnt ad) {N M : Int} (σ : St) (hv : Inv N M σ) : GF l yX7_heldShare wsX7_heldShare ({ frames := 0, cells := 0, slots := 0, locals := 0 } : Room) Dg cA ccnt ad oc (cE cA ad σ) [.ref (ad 0 0)] (hsB (6 - held σ (-1))) (cE cA ad σ) := by
  intro sz
  refine g_ent (cc := cX7_heldShare) (maxL := 3) (ret := (some .float)) (by decide) rfl hI (Nat.le_of_ble_eq_true rfl) ?_
  intro pgm env s₀ m₀ bel mth cod hX hW hS hsz ls hl
  subst hsz
  have hC := hX.1
  have hx := hC.1
  have hb := hC.2.1
  have hts := hC.2.2.2.1
  have hl : lv_has ls 3 [(0, .ref (ad 0 0))] := hl
  have hin_X0 : ∀ w ∈ wsX00, w ∈ wsX7_heldShare := by decide +kernel
  have hin_X7 : ∀ w ∈ wsX70, w ∈ wsX7_heldShare := by decide +kernel
  have hl_29 := hts (.fieldLink RX7 29 "KioskReel" "devices" "[LKioskReel$Device;") (by decide +kernel)
  have hl_131 := hts (.fieldLink RX7 131 "KioskReel$Device" "owner" "I") (by decide +kernel)
  refine k_iconst hC dX7_heldShare_0 ?_
  refine lv_istore_n (lv' := [(1, .int (zi 0)), (0, .ref (ad 0 0))]) hx hb dX7_heldShare_1 rfl hl (by decide) rfl (fun ls hl => ?_)
  refine k_iconst hC dX7_heldShare_2 ?_
  refine lv_istore_n (lv' := [(2, .int (zi 0)), (1, .int (zi 0)), (0, .ref (ad 0 0))]) hx hb dX7_heldShare_3 rfl hl (by decide) rfl (fun ls hl => ?_)
  have loop_4 : ∀ (fuel : Nat) (i : Int) (f : Int), 6 - i < (fuel : Int) → (0 ≤ i) → (i ≤ 6) → (f = cN (fun d => decide (σ 18 d 0 ≠ -1)) i) → ∀ (H : Heap) (locs : List Loc), WP Dg ccnt ad (cE cA ad σ) H → va_S (WA ccnt ad s₀.heap.size) s₀.heap H locs → ∀ ls : Array Slot, lv_has ls 3 [(2, .int (zi i)), (1, .int (zi f)), (0, .ref (ad 0 0))] → W pgm l env ({ frames := 0, cells := 0, slots := 0, locals := 0 } : Room) s₀ m₀ ([.ref (ad 0 0)] : List Value).toArray bel mth cod H locs 0 0 (MQ bel (va_Qf (fun (rr : UInt32) (_ : Unit) => rr = (hsB (6 - held σ (-1)))) (gB Dg ccnt ad (cE cA ad σ)) (WA ccnt ad s₀.heap.size)) ([.ref (ad 0 0)] : List Value).toArray s₀ 0 0 (WA ccnt ad s₀.heap.size)) (F0 m₀ 4 ls []) := by
    intro fuel
    induction fuel with
    | zero => intro i f hn i1 i2 i3; exact absurd hn (by omega)
    | succ fuel ih_4 =>
      intro i f hn i1 i2 i3 H locs hW hS ls hl
      refine lv_iload_n hx hb dX7_heldShare_4 rfl (lv_at hl 0 rfl) ?_
      refine k_bipush hC dX7_heldShare_5 (by decide) ?_
      refine k_icmp_ge (tgt := 32) hC dX7_heldShare_7 (by decide) (by omega) (fun c1 => ?_) (fun c1 => ?_)
      · have hh := held_rng σ (-1)
        have hf : f = 6 - held σ (-1) := by rw [i3, show i = 6 by omega]; exact held_not σ
        refine lv_iload_n hx hb dX7_heldShare_32 rfl (lv_at hl 1 rfl) ?_
        refine lv_i2f hx hb dX7_heldShare_33 ?_
        refine lv_ldcf hx hb hC.2.2.1 (hts (.constantFloat RX7 234 (1086324736)) (by decide +kernel)) dX7_heldShare_34 ?_
        refine k_fdiv6 hC dX7_heldShare_36 (by omega) ?_
        exact k_fret hX (by rw [hf]) hW hS dX7_heldShare_37
      · refine lv_aload_n hx hb dX7_heldShare_10 rfl (lv_at hl 2 rfl) ?_
        refine cg_KR_devices hC hW hin_X7 hl_29 dX7_heldShare_11 ?_
        refine lv_iload_n hx hb dX7_heldShare_14 rfl (lv_at hl 0 rfl) ?_
        refine ca_devices hC hW (by omega) dX7_heldShare_15 ?_
        have hO := (hv.O.1 i (by omega) (by omega)).1
        refine cg_Device_owner hC hW hin_X0 hl_131 (by omega) (v := σ 18 i 0) rfl dX7_heldShare_16 ?_
        refine k_iconst hC dX7_heldShare_19 ?_
        refine k_icmp_eq (tgt := 26) hC dX7_heldShare_20 (by decide) (by omega) (fun c2 => ?_) (fun c2 => ?_)
        · refine k_iinc (a := i) (lv' := [(2, .int (zi (i + 1))), (1, .int (zi f)), (0, .ref (ad 0 0))]) hC dX7_heldShare_26 hl (k := 0) rfl (by decide) rfl (fun ls hl => ?_)
          refine lv_goto (tgt := 4) hx hb dX7_heldShare_29 (by decide) ?_
          have hl := Eq.mp (congrArg (fun z : Int => lv_has ls 3 [(2, .int (zi z)), (1, .int (zi f)), (0, .ref (ad 0 0))]) (show (i + 1 : Int) = (i + 1) by omega)) hl
          exact ih_4 (i + 1) f (by omega) (by omega) (by omega) (by first | (rw [cN_t _ (by omega) (decide_eq_true (by omega))]; omega) | (rw [cN_f _ (by omega) (decide_eq_false (by omega))]; omega)) _ _ hW hS _ (lv_sub hl [0, 1, 2] rfl)
        · refine k_iinc (a := f) (lv' := [(1, .int (zi (f + 1))), (2, .int (zi i)), (0, .ref (ad 0 0))]) hC dX7_heldShare_23 hl (k := 1) rfl (by decide) rfl (fun ls hl => ?_)
          refine k_iinc (a := i) (lv' := [(2, .int (zi (i + 1))), (1, .int (zi (f + 1))), (0, .ref (ad 0 0))]) hC dX7_heldShare_26 hl (k := 1) rfl (by decide) rfl (fun ls hl => ?_)
          refine lv_goto (tgt := 4) hx hb dX7_heldShare_29 (by decide) ?_
          have hl := Eq.mp (congrArg (fun z : Int => lv_has ls 3 [(2, .int (zi z)), (1, .int (zi (f + 1))), (0, .ref (ad 0 0))]) (show (i + 1 : Int) = (i + 1) by omega)) hl
          have hl := Eq.mp (congrArg (fun z : Int => lv_has ls 3 [(2, .int (zi (i + 1))), (1, .int (zi z)), (0, .ref (ad 0 0))]) (show (f + 1 : Int) = (f + 1) by omega)) hl
          exact ih_4 (i + 1) (f + 1) (by omega) (by omega) (by omega) (by first | (rw [cN_t _ (by omega) (decide_eq_true (by omega))]; omega) | (rw [cN_f _ (by omega) (decide_eq_false (by omega))]; omega)) _ _ hW hS _ (lv_sub hl [0, 1, 2] rfl)
  exact loop_4 (Int.toNat (6 - 0) + 1) 0 0 (by omega) (by omega) (by omega) rfl _ _ hW hS _ (lv_sub hl [0, 1, 2] rfl)
set_option maxHeartbeats 1000000 in
set_option maxRecDepth 100000 in
theorem m_bits0 {l : Launch} {Dg : va_G} {cA : Nat → ClassId} {ad : Nat → Int → Nat} {oc : Nat → Nat} (hI : WI ccnt ad) (σ : St) : GI l yX7_bitsOfShare wsX7_bitsOfShare ({ frames := 0, cells := 0, slots := 0, locals := 0 } : Room) Dg cA ccnt ad oc (cE cA ad σ) [.float 0] 0 (cE cA ad σ) := by
  intro sz
  refine g_ent (cc := cX7_bitsOfShare) (maxL := 4) (ret := (some .int)) (by decide) rfl hI (Nat.le_of_ble_eq_true rfl) ?_
  intro pgm env s₀ m₀ bel mth cod hX hW hS hsz ls hl
  subst hsz
  have hC := hX.1
  have hx := hC.1
  have hb := hC.2.1
  have hts := hC.2.2.2.1
  have hl : lv_has ls 4 [(0, .float 0)] := hl
  refine lv_fload_n hx hb dX7_bitsOfShare_0 rfl (lv_at hl 0 rfl) ?_
  refine k_fconst0 hC dX7_bitsOfShare_1 ?_
  refine k_fcmp (v := 0) hC dX7_bitsOfShare_2 (by decide +kernel) ?_
  refine k_if_gt (tgt := 8) hC dX7_bitsOfShare_3 (by decide) (by omega) (fun c1 => absurd c1 (by omega)) (fun c1 => ?_)
  refine k_iconst hC dX7_bitsOfShare_6 ?_
  exact k_iret hX rfl hW hS dX7_bitsOfShare_7
set_option maxHeartbeats 1000000 in
set_option maxRecDepth 100000 in
theorem m_bits1 {l : Launch} {Dg : va_G} {cA : Nat → ClassId} {ad : Nat → Int → Nat} {oc : Nat → Nat} (hI : WI ccnt ad) (σ : St) : GI l yX7_bitsOfShare wsX7_bitsOfShare ({ frames := 0, cells := 0, slots := 0, locals := 0 } : Room) Dg cA ccnt ad oc (cE cA ad σ) [.float 1042983595] 1042983595 (cE cA ad σ) := by
  intro sz
  refine g_ent (cc := cX7_bitsOfShare) (maxL := 4) (ret := (some .int)) (by decide) rfl hI (Nat.le_of_ble_eq_true rfl) ?_
  intro pgm env s₀ m₀ bel mth cod hX hW hS hsz ls hl
  subst hsz
  have hC := hX.1
  have hx := hC.1
  have hb := hC.2.1
  have hts := hC.2.2.2.1
  have hl : lv_has ls 4 [(0, .float 1042983595)] := hl
  refine lv_fload_n hx hb dX7_bitsOfShare_0 rfl (lv_at hl 0 rfl) ?_
  refine k_fconst0 hC dX7_bitsOfShare_1 ?_
  refine k_fcmp (v := 1) hC dX7_bitsOfShare_2 (by decide +kernel) ?_
  refine k_if_gt (tgt := 8) hC dX7_bitsOfShare_3 (by decide) (by omega) (fun c1 => ?_) (fun c1 => absurd c1 (by omega))
  refine lv_fload_n hx hb dX7_bitsOfShare_8 rfl (lv_at hl 0 rfl) ?_
  refine lv_fstore_n (lv' := [(1, .float 1042983595), (0, .float 1042983595)]) hx hb dX7_bitsOfShare_9 rfl hl (by decide) rfl (fun ls hl => ?_)
  refine k_bipush hC dX7_bitsOfShare_10 (by decide) ?_
  refine lv_istore_n (lv' := [(2, .int (zi 127)), (1, .float 1042983595), (0, .float 1042983595)]) hx hb dX7_bitsOfShare_12 rfl hl (by decide) rfl (fun ls hl => ?_)
  refine k_iconst hC dX7_bitsOfShare_13 ?_
  refine lv_istore_n (lv' := [(3, .int (zi 0)), (2, .int (zi 127)), (1, .float 1042983595), (0, .float 1042983595)]) hx hb dX7_bitsOfShare_14 rfl hl (by decide) rfl (fun ls hl => ?_)
  refine lv_iload_n hx hb dX7_bitsOfShare_15 rfl (lv_at hl 0 rfl) ?_
  refine k_bipush hC dX7_bitsOfShare_16 (by decide) ?_
  refine k_icmp_ge (tgt := 40) hC dX7_bitsOfShare_18 (by decide) (by omega) (fun c2 => absurd c2 (by omega)) (fun c2 => ?_)
  refine lv_fload_n hx hb dX7_bitsOfShare_21 rfl (lv_at hl 2 rfl) ?_
  refine k_fconst1 hC dX7_bitsOfShare_22 ?_
  refine k_fcmp (v := (-1)) hC dX7_bitsOfShare_23 (by decide +kernel) ?_
  refine k_if_ge (tgt := 40) hC dX7_bitsOfShare_24 (by decide) (by omega) (fun c3 => absurd c3 (by omega)) (fun c3 => ?_)
  refine lv_fload_n hx hb dX7_bitsOfShare_27 rfl (lv_at hl 2 rfl) ?_
  refine k_fconst2 hC dX7_bitsOfShare_28 ?_
  refine k_fmul (z := 1051372203) hC dX7_bitsOfShare_29 (by decide +kernel) (by decide +kernel) ?_
  refine lv_fstore_n (lv' := [(1, .float 1051372203), (3, .int (zi 0)), (2, .int (zi 127)), (0, .float 1042983595)]) hx hb dX7_bitsOfShare_30 rfl hl (by decide) rfl (fun ls hl => ?_)
  refine k_iinc (a := 127) (lv' := [(2, .int (zi (127 + (-1)))), (1, .float 1051372203), (3, .int (zi 0)), (0, .float 1042983595)]) hC dX7_bitsOfShare_31 hl (k := 2) rfl (by decide) rfl (fun ls hl => ?_)
  refine k_iinc (a := 0) (lv' := [(3, .int (zi (0 + 1))), (2, .int (zi (127 + (-1)))), (1, .float 1051372203), (0, .float 1042983595)]) hC dX7_bitsOfShare_34 hl (k := 2) rfl (by decide) rfl (fun ls hl => ?_)
  refine lv_goto (tgt := 15) hx hb dX7_bitsOfShare_37 (by decide) ?_
  refine lv_iload_n hx hb dX7_bitsOfShare_15 rfl (lv_at hl 0 rfl) ?_
  refine k_bipush hC dX7_bitsOfShare_16 (by decide) ?_
  refine k_icmp_ge (tgt := 40) hC dX7_bitsOfShare_18 (by decide) (by omega) (fun c4 => absurd c4 (by omega)) (fun c4 => ?_)
  refine lv_fload_n hx hb dX7_bitsOfShare_21 rfl (lv_at hl 2 rfl) ?_
  refine k_fconst1 hC dX7_bitsOfShare_22 ?_
  refine k_fcmp (v := (-1)) hC dX7_bitsOfShare_23 (by decide +kernel) ?_
  refine k_if_ge (tgt := 40) hC dX7_bitsOfShare_24 (by decide) (by omega) (fun c5 => absurd c5 (by omega)) (fun c5 => ?_)
  refine lv_fload_n hx hb dX7_bitsOfShare_27 rfl (lv_at hl 2 rfl) ?_
  refine k_fconst2 hC dX7_bitsOfShare_28 ?_
  refine k_fmul (z := 1059760811) hC dX7_bitsOfShare_29 (by decide +kernel) (by decide +kernel) ?_
  refine lv_fstore_n (lv' := [(1, .float 1059760811), (3, .int (zi (0 + 1))), (2, .int (zi (127 + (-1)))), (0, .float 1042983595)]) hx hb dX7_bitsOfShare_30 rfl hl (by decide) rfl (fun ls hl => ?_)
  refine k_iinc (a := 127 + (-1)) (lv' := [(2, .int (zi ((127 + (-1)) + (-1)))), (1, .float 1059760811), (3, .int (zi (0 + 1))), (0, .float 1042983595)]) hC dX7_bitsOfShare_31 hl (k := 2) rfl (by decide) rfl (fun ls hl => ?_)
  refine k_iinc (a := 0 + 1) (lv' := [(3, .int (zi ((0 + 1) + 1))), (2, .int (zi ((127 + (-1)) + (-1)))), (1, .float 1059760811), (0, .float 1042983595)]) hC dX7_bitsOfShare_34 hl (k := 2) rfl (by decide) rfl (fun ls hl => ?_)
  refine lv_goto (tgt := 15) hx hb dX7_bitsOfShare_37 (by decide) ?_
  refine lv_iload_n hx hb dX7_bitsOfShare_15 rfl (lv_at hl 0 rfl) ?_
  refine k_bipush hC dX7_bitsOfShare_16 (by decide) ?_
  refine k_icmp_ge (tgt := 40) hC dX7_bitsOfShare_18 (by decide) (by omega) (fun c6 => absurd c6 (by omega)) (fun c6 => ?_)
  refine lv_fload_n hx hb dX7_bitsOfShare_21 rfl (lv_at hl 2 rfl) ?_
  refine k_fconst1 hC dX7_bitsOfShare_22 ?_
  refine k_fcmp (v := (-1)) hC dX7_bitsOfShare_23 (by decide +kernel) ?_
  refine k_if_ge (tgt := 40) hC dX7_bitsOfShare_24 (by decide) (by omega) (fun c7 => absurd c7 (by omega)) (fun c7 => ?_)
  refine lv_fload_n hx hb dX7_bitsOfShare_27 rfl (lv_at hl 2 rfl) ?_
  refine k_fconst2 hC dX7_bitsOfShare_28 ?_
  refine k_fmul (z := 1068149419) hC dX7_bitsOfShare_29 (by decide +kernel) (by decide +kernel) ?_
  refine lv_fstore_n (lv' := [(1, .float 1068149419), (3, .int (zi ((0 + 1) + 1))), (2, .int (zi ((127 + (-1)) + (-1)))), (0, .float 1042983595)]) hx hb dX7_bitsOfShare_30 rfl hl (by decide) rfl (fun ls hl => ?_)
  refine k_iinc (a := (127 + (-1)) + (-1)) (lv' := [(2, .int (zi (((127 + (-1)) + (-1)) + (-1)))), (1, .float 1068149419), (3, .int (zi ((0 + 1) + 1))), (0, .float 1042983595)]) hC dX7_bitsOfShare_31 hl (k := 2) rfl (by decide) rfl (fun ls hl => ?_)
  refine k_iinc (a := (0 + 1) + 1) (lv' := [(3, .int (zi (((0 + 1) + 1) + 1))), (2, .int (zi (((127 + (-1)) + (-1)) + (-1)))), (1, .float 1068149419), (0, .float 1042983595)]) hC dX7_bitsOfShare_34 hl (k := 2) rfl (by decide) rfl (fun ls hl => ?_)
  refine lv_goto (tgt := 15) hx hb dX7_bitsOfShare_37 (by decide) ?_
  refine lv_iload_n hx hb dX7_bitsOfShare_15 rfl (lv_at hl 0 rfl) ?_
  refine k_bipush hC dX7_bitsOfShare_16 (by decide) ?_
  refine k_icmp_ge (tgt := 40) hC dX7_bitsOfShare_18 (by decide) (by omega) (fun c8 => absurd c8 (by omega)) (fun c8 => ?_)
  refine lv_fload_n hx hb dX7_bitsOfShare_21 rfl (lv_at hl 2 rfl) ?_
  refine k_fconst1 hC dX7_bitsOfShare_22 ?_
  refine k_fcmp (v := 1) hC dX7_bitsOfShare_23 (by decide +kernel) ?_
  refine k_if_ge (tgt := 40) hC dX7_bitsOfShare_24 (by decide) (by omega) (fun c9 => ?_) (fun c9 => absurd c9 (by omega))
  refine lv_fload_n hx hb dX7_bitsOfShare_40 rfl (lv_at hl 2 rfl) ?_
  refine k_fconst1 hC dX7_bitsOfShare_41 ?_
  refine k_fsub (z := 1051372204) hC dX7_bitsOfShare_42 (by decide +kernel) (by decide +kernel) ?_
  refine lv_ldcwf hx hb hC.2.2.1 (hts (.constantFloat RX7 358 (1258291200)) (by decide +kernel)) dX7_bitsOfShare_43 ?_
  refine k_fmul (z := 1244310188) hC dX7_bitsOfShare_46 (by decide +kernel) (by decide +kernel) ?_
  refine k_f2i (v := 2796203) hC dX7_bitsOfShare_47 (by decide +kernel) ?_
  refine lv_istore_n (lv' := [(3, .int (zi 2796203)), (2, .int (zi (((127 + (-1)) + (-1)) + (-1)))), (1, .float 1068149419), (0, .float 1042983595)]) hx hb dX7_bitsOfShare_48 rfl hl (by decide) rfl (fun ls hl => ?_)
  refine lv_iload_n hx hb dX7_bitsOfShare_49 rfl (lv_at hl 1 rfl) ?_
  refine k_bipush hC dX7_bitsOfShare_50 (by decide) ?_
  refine k_ishl (v := 1040187392) hC dX7_bitsOfShare_52 (by decide +kernel) ?_
  refine lv_iload_n hx hb dX7_bitsOfShare_53 rfl (lv_at hl 0 rfl) ?_
  refine k_ior (v := 1042983595) hC dX7_bitsOfShare_54 (by decide +kernel) ?_
  exact k_iret hX rfl hW hS dX7_bitsOfShare_55
set_option maxHeartbeats 1000000 in
set_option maxRecDepth 100000 in
theorem m_bits2 {l : Launch} {Dg : va_G} {cA : Nat → ClassId} {ad : Nat → Int → Nat} {oc : Nat → Nat} (hI : WI ccnt ad) (σ : St) : GI l yX7_bitsOfShare wsX7_bitsOfShare ({ frames := 0, cells := 0, slots := 0, locals := 0 } : Room) Dg cA ccnt ad oc (cE cA ad σ) [.float 1051372203] 1051372203 (cE cA ad σ) := by
  intro sz
  refine g_ent (cc := cX7_bitsOfShare) (maxL := 4) (ret := (some .int)) (by decide) rfl hI (Nat.le_of_ble_eq_true rfl) ?_
  intro pgm env s₀ m₀ bel mth cod hX hW hS hsz ls hl
  subst hsz
  have hC := hX.1
  have hx := hC.1
  have hb := hC.2.1
  have hts := hC.2.2.2.1
  have hl : lv_has ls 4 [(0, .float 1051372203)] := hl
  refine lv_fload_n hx hb dX7_bitsOfShare_0 rfl (lv_at hl 0 rfl) ?_
  refine k_fconst0 hC dX7_bitsOfShare_1 ?_
  refine k_fcmp (v := 1) hC dX7_bitsOfShare_2 (by decide +kernel) ?_
  refine k_if_gt (tgt := 8) hC dX7_bitsOfShare_3 (by decide) (by omega) (fun c1 => ?_) (fun c1 => absurd c1 (by omega))
  refine lv_fload_n hx hb dX7_bitsOfShare_8 rfl (lv_at hl 0 rfl) ?_
  refine lv_fstore_n (lv' := [(1, .float 1051372203), (0, .float 1051372203)]) hx hb dX7_bitsOfShare_9 rfl hl (by decide) rfl (fun ls hl => ?_)
  refine k_bipush hC dX7_bitsOfShare_10 (by decide) ?_
  refine lv_istore_n (lv' := [(2, .int (zi 127)), (1, .float 1051372203), (0, .float 1051372203)]) hx hb dX7_bitsOfShare_12 rfl hl (by decide) rfl (fun ls hl => ?_)
  refine k_iconst hC dX7_bitsOfShare_13 ?_
  refine lv_istore_n (lv' := [(3, .int (zi 0)), (2, .int (zi 127)), (1, .float 1051372203), (0, .float 1051372203)]) hx hb dX7_bitsOfShare_14 rfl hl (by decide) rfl (fun ls hl => ?_)
  refine lv_iload_n hx hb dX7_bitsOfShare_15 rfl (lv_at hl 0 rfl) ?_
  refine k_bipush hC dX7_bitsOfShare_16 (by decide) ?_
  refine k_icmp_ge (tgt := 40) hC dX7_bitsOfShare_18 (by decide) (by omega) (fun c2 => absurd c2 (by omega)) (fun c2 => ?_)
  refine lv_fload_n hx hb dX7_bitsOfShare_21 rfl (lv_at hl 2 rfl) ?_
  refine k_fconst1 hC dX7_bitsOfShare_22 ?_
  refine k_fcmp (v := (-1)) hC dX7_bitsOfShare_23 (by decide +kernel) ?_
  refine k_if_ge (tgt := 40) hC dX7_bitsOfShare_24 (by decide) (by omega) (fun c3 => absurd c3 (by omega)) (fun c3 => ?_)
  refine lv_fload_n hx hb dX7_bitsOfShare_27 rfl (lv_at hl 2 rfl) ?_
  refine k_fconst2 hC dX7_bitsOfShare_28 ?_
  refine k_fmul (z := 1059760811) hC dX7_bitsOfShare_29 (by decide +kernel) (by decide +kernel) ?_
  refine lv_fstore_n (lv' := [(1, .float 1059760811), (3, .int (zi 0)), (2, .int (zi 127)), (0, .float 1051372203)]) hx hb dX7_bitsOfShare_30 rfl hl (by decide) rfl (fun ls hl => ?_)
  refine k_iinc (a := 127) (lv' := [(2, .int (zi (127 + (-1)))), (1, .float 1059760811), (3, .int (zi 0)), (0, .float 1051372203)]) hC dX7_bitsOfShare_31 hl (k := 2) rfl (by decide) rfl (fun ls hl => ?_)
  refine k_iinc (a := 0) (lv' := [(3, .int (zi (0 + 1))), (2, .int (zi (127 + (-1)))), (1, .float 1059760811), (0, .float 1051372203)]) hC dX7_bitsOfShare_34 hl (k := 2) rfl (by decide) rfl (fun ls hl => ?_)
  refine lv_goto (tgt := 15) hx hb dX7_bitsOfShare_37 (by decide) ?_
  refine lv_iload_n hx hb dX7_bitsOfShare_15 rfl (lv_at hl 0 rfl) ?_
  refine k_bipush hC dX7_bitsOfShare_16 (by decide) ?_
  refine k_icmp_ge (tgt := 40) hC dX7_bitsOfShare_18 (by decide) (by omega) (fun c4 => absurd c4 (by omega)) (fun c4 => ?_)
  refine lv_fload_n hx hb dX7_bitsOfShare_21 rfl (lv_at hl 2 rfl) ?_
  refine k_fconst1 hC dX7_bitsOfShare_22 ?_
  refine k_fcmp (v := (-1)) hC dX7_bitsOfShare_23 (by decide +kernel) ?_
  refine k_if_ge (tgt := 40) hC dX7_bitsOfShare_24 (by decide) (by omega) (fun c5 => absurd c5 (by omega)) (fun c5 => ?_)
  refine lv_fload_n hx hb dX7_bitsOfShare_27 rfl (lv_at hl 2 rfl) ?_
  refine k_fconst2 hC dX7_bitsOfShare_28 ?_
  refine k_fmul (z := 1068149419) hC dX7_bitsOfShare_29 (by decide +kernel) (by decide +kernel) ?_
  refine lv_fstore_n (lv' := [(1, .float 1068149419), (3, .int (zi (0 + 1))), (2, .int (zi (127 + (-1)))), (0, .float 1051372203)]) hx hb dX7_bitsOfShare_30 rfl hl (by decide) rfl (fun ls hl => ?_)
  refine k_iinc (a := 127 + (-1)) (lv' := [(2, .int (zi ((127 + (-1)) + (-1)))), (1, .float 1068149419), (3, .int (zi (0 + 1))), (0, .float 1051372203)]) hC dX7_bitsOfShare_31 hl (k := 2) rfl (by decide) rfl (fun ls hl => ?_)
  refine k_iinc (a := 0 + 1) (lv' := [(3, .int (zi ((0 + 1) + 1))), (2, .int (zi ((127 + (-1)) + (-1)))), (1, .float 1068149419), (0, .float 1051372203)]) hC dX7_bitsOfShare_34 hl (k := 2) rfl (by decide) rfl (fun ls hl => ?_)
  refine lv_goto (tgt := 15) hx hb dX7_bitsOfShare_37 (by decide) ?_
  refine lv_iload_n hx hb dX7_bitsOfShare_15 rfl (lv_at hl 0 rfl) ?_
  refine k_bipush hC dX7_bitsOfShare_16 (by decide) ?_
  refine k_icmp_ge (tgt := 40) hC dX7_bitsOfShare_18 (by decide) (by omega) (fun c6 => absurd c6 (by omega)) (fun c6 => ?_)
  refine lv_fload_n hx hb dX7_bitsOfShare_21 rfl (lv_at hl 2 rfl) ?_
  refine k_fconst1 hC dX7_bitsOfShare_22 ?_
  refine k_fcmp (v := 1) hC dX7_bitsOfShare_23 (by decide +kernel) ?_
  refine k_if_ge (tgt := 40) hC dX7_bitsOfShare_24 (by decide) (by omega) (fun c7 => ?_) (fun c7 => absurd c7 (by omega))
  refine lv_fload_n hx hb dX7_bitsOfShare_40 rfl (lv_at hl 2 rfl) ?_
  refine k_fconst1 hC dX7_bitsOfShare_41 ?_
  refine k_fsub (z := 1051372204) hC dX7_bitsOfShare_42 (by decide +kernel) (by decide +kernel) ?_
  refine lv_ldcwf hx hb hC.2.2.1 (hts (.constantFloat RX7 358 (1258291200)) (by decide +kernel)) dX7_bitsOfShare_43 ?_
  refine k_fmul (z := 1244310188) hC dX7_bitsOfShare_46 (by decide +kernel) (by decide +kernel) ?_
  refine k_f2i (v := 2796203) hC dX7_bitsOfShare_47 (by decide +kernel) ?_
  refine lv_istore_n (lv' := [(3, .int (zi 2796203)), (2, .int (zi ((127 + (-1)) + (-1)))), (1, .float 1068149419), (0, .float 1051372203)]) hx hb dX7_bitsOfShare_48 rfl hl (by decide) rfl (fun ls hl => ?_)
  refine lv_iload_n hx hb dX7_bitsOfShare_49 rfl (lv_at hl 1 rfl) ?_
  refine k_bipush hC dX7_bitsOfShare_50 (by decide) ?_
  refine k_ishl (v := 1048576000) hC dX7_bitsOfShare_52 (by decide +kernel) ?_
  refine lv_iload_n hx hb dX7_bitsOfShare_53 rfl (lv_at hl 0 rfl) ?_
  refine k_ior (v := 1051372203) hC dX7_bitsOfShare_54 (by decide +kernel) ?_
  exact k_iret hX rfl hW hS dX7_bitsOfShare_55
set_option maxHeartbeats 1000000 in
set_option maxRecDepth 100000 in
theorem m_bits3 {l : Launch} {Dg : va_G} {cA : Nat → ClassId} {ad : Nat → Int → Nat} {oc : Nat → Nat} (hI : WI ccnt ad) (σ : St) : GI l yX7_bitsOfShare wsX7_bitsOfShare ({ frames := 0, cells := 0, slots := 0, locals := 0 } : Room) Dg cA ccnt ad oc (cE cA ad σ) [.float 1056964608] 1056964608 (cE cA ad σ) := by
  intro sz
  refine g_ent (cc := cX7_bitsOfShare) (maxL := 4) (ret := (some .int)) (by decide) rfl hI (Nat.le_of_ble_eq_true rfl) ?_
  intro pgm env s₀ m₀ bel mth cod hX hW hS hsz ls hl
  subst hsz
  have hC := hX.1
  have hx := hC.1
  have hb := hC.2.1
  have hts := hC.2.2.2.1
  have hl : lv_has ls 4 [(0, .float 1056964608)] := hl
  refine lv_fload_n hx hb dX7_bitsOfShare_0 rfl (lv_at hl 0 rfl) ?_
  refine k_fconst0 hC dX7_bitsOfShare_1 ?_
  refine k_fcmp (v := 1) hC dX7_bitsOfShare_2 (by decide +kernel) ?_
  refine k_if_gt (tgt := 8) hC dX7_bitsOfShare_3 (by decide) (by omega) (fun c1 => ?_) (fun c1 => absurd c1 (by omega))
  refine lv_fload_n hx hb dX7_bitsOfShare_8 rfl (lv_at hl 0 rfl) ?_
  refine lv_fstore_n (lv' := [(1, .float 1056964608), (0, .float 1056964608)]) hx hb dX7_bitsOfShare_9 rfl hl (by decide) rfl (fun ls hl => ?_)
  refine k_bipush hC dX7_bitsOfShare_10 (by decide) ?_
  refine lv_istore_n (lv' := [(2, .int (zi 127)), (1, .float 1056964608), (0, .float 1056964608)]) hx hb dX7_bitsOfShare_12 rfl hl (by decide) rfl (fun ls hl => ?_)
  refine k_iconst hC dX7_bitsOfShare_13 ?_
  refine lv_istore_n (lv' := [(3, .int (zi 0)), (2, .int (zi 127)), (1, .float 1056964608), (0, .float 1056964608)]) hx hb dX7_bitsOfShare_14 rfl hl (by decide) rfl (fun ls hl => ?_)
  refine lv_iload_n hx hb dX7_bitsOfShare_15 rfl (lv_at hl 0 rfl) ?_
  refine k_bipush hC dX7_bitsOfShare_16 (by decide) ?_
  refine k_icmp_ge (tgt := 40) hC dX7_bitsOfShare_18 (by decide) (by omega) (fun c2 => absurd c2 (by omega)) (fun c2 => ?_)
  refine lv_fload_n hx hb dX7_bitsOfShare_21 rfl (lv_at hl 2 rfl) ?_
  refine k_fconst1 hC dX7_bitsOfShare_22 ?_
  refine k_fcmp (v := (-1)) hC dX7_bitsOfShare_23 (by decide +kernel) ?_
  refine k_if_ge (tgt := 40) hC dX7_bitsOfShare_24 (by decide) (by omega) (fun c3 => absurd c3 (by omega)) (fun c3 => ?_)
  refine lv_fload_n hx hb dX7_bitsOfShare_27 rfl (lv_at hl 2 rfl) ?_
  refine k_fconst2 hC dX7_bitsOfShare_28 ?_
  refine k_fmul (z := 1065353216) hC dX7_bitsOfShare_29 (by decide +kernel) (by decide +kernel) ?_
  refine lv_fstore_n (lv' := [(1, .float 1065353216), (3, .int (zi 0)), (2, .int (zi 127)), (0, .float 1056964608)]) hx hb dX7_bitsOfShare_30 rfl hl (by decide) rfl (fun ls hl => ?_)
  refine k_iinc (a := 127) (lv' := [(2, .int (zi (127 + (-1)))), (1, .float 1065353216), (3, .int (zi 0)), (0, .float 1056964608)]) hC dX7_bitsOfShare_31 hl (k := 2) rfl (by decide) rfl (fun ls hl => ?_)
  refine k_iinc (a := 0) (lv' := [(3, .int (zi (0 + 1))), (2, .int (zi (127 + (-1)))), (1, .float 1065353216), (0, .float 1056964608)]) hC dX7_bitsOfShare_34 hl (k := 2) rfl (by decide) rfl (fun ls hl => ?_)
  refine lv_goto (tgt := 15) hx hb dX7_bitsOfShare_37 (by decide) ?_
  refine lv_iload_n hx hb dX7_bitsOfShare_15 rfl (lv_at hl 0 rfl) ?_
  refine k_bipush hC dX7_bitsOfShare_16 (by decide) ?_
  refine k_icmp_ge (tgt := 40) hC dX7_bitsOfShare_18 (by decide) (by omega) (fun c4 => absurd c4 (by omega)) (fun c4 => ?_)
  refine lv_fload_n hx hb dX7_bitsOfShare_21 rfl (lv_at hl 2 rfl) ?_
  refine k_fconst1 hC dX7_bitsOfShare_22 ?_
  refine k_fcmp (v := 0) hC dX7_bitsOfShare_23 (by decide +kernel) ?_
  refine k_if_ge (tgt := 40) hC dX7_bitsOfShare_24 (by decide) (by omega) (fun c5 => ?_) (fun c5 => absurd c5 (by omega))
  refine lv_fload_n hx hb dX7_bitsOfShare_40 rfl (lv_at hl 2 rfl) ?_
  refine k_fconst1 hC dX7_bitsOfShare_41 ?_
  refine k_fsub (z := 0) hC dX7_bitsOfShare_42 (by decide +kernel) (by decide +kernel) ?_
  refine lv_ldcwf hx hb hC.2.2.1 (hts (.constantFloat RX7 358 (1258291200)) (by decide +kernel)) dX7_bitsOfShare_43 ?_
  refine k_fmul (z := 0) hC dX7_bitsOfShare_46 (by decide +kernel) (by decide +kernel) ?_
  refine k_f2i (v := 0) hC dX7_bitsOfShare_47 (by decide +kernel) ?_
  refine lv_istore_n (lv' := [(3, .int (zi 0)), (2, .int (zi (127 + (-1)))), (1, .float 1065353216), (0, .float 1056964608)]) hx hb dX7_bitsOfShare_48 rfl hl (by decide) rfl (fun ls hl => ?_)
  refine lv_iload_n hx hb dX7_bitsOfShare_49 rfl (lv_at hl 1 rfl) ?_
  refine k_bipush hC dX7_bitsOfShare_50 (by decide) ?_
  refine k_ishl (v := 1056964608) hC dX7_bitsOfShare_52 (by decide +kernel) ?_
  refine lv_iload_n hx hb dX7_bitsOfShare_53 rfl (lv_at hl 0 rfl) ?_
  refine k_ior (v := 1056964608) hC dX7_bitsOfShare_54 (by decide +kernel) ?_
  exact k_iret hX rfl hW hS dX7_bitsOfShare_55
set_option maxHeartbeats 1000000 in
set_option maxRecDepth 100000 in
theorem m_bits4 {l : Launch} {Dg : va_G} {cA : Nat → ClassId} {ad : Nat → Int → Nat} {oc : Nat → Nat} (hI : WI ccnt ad) (σ : St) : GI l yX7_bitsOfShare wsX7_bitsOfShare ({ frames := 0, cells := 0, slots := 0, locals := 0 } : Room) Dg cA ccnt ad oc (cE cA ad σ) [.float 1059760811] 1059760811 (cE cA ad σ) := by
  intro sz
  refine g_ent (cc := cX7_bitsOfShare) (maxL := 4) (ret := (some .int)) (by decide) rfl hI (Nat.le_of_ble_eq_true rfl) ?_
  intro pgm env s₀ m₀ bel mth cod hX hW hS hsz ls hl
  subst hsz
  have hC := hX.1
  have hx := hC.1
  have hb := hC.2.1
  have hts := hC.2.2.2.1
  have hl : lv_has ls 4 [(0, .float 1059760811)] := hl
  refine lv_fload_n hx hb dX7_bitsOfShare_0 rfl (lv_at hl 0 rfl) ?_
  refine k_fconst0 hC dX7_bitsOfShare_1 ?_
  refine k_fcmp (v := 1) hC dX7_bitsOfShare_2 (by decide +kernel) ?_
  refine k_if_gt (tgt := 8) hC dX7_bitsOfShare_3 (by decide) (by omega) (fun c1 => ?_) (fun c1 => absurd c1 (by omega))
  refine lv_fload_n hx hb dX7_bitsOfShare_8 rfl (lv_at hl 0 rfl) ?_
  refine lv_fstore_n (lv' := [(1, .float 1059760811), (0, .float 1059760811)]) hx hb dX7_bitsOfShare_9 rfl hl (by decide) rfl (fun ls hl => ?_)
  refine k_bipush hC dX7_bitsOfShare_10 (by decide) ?_
  refine lv_istore_n (lv' := [(2, .int (zi 127)), (1, .float 1059760811), (0, .float 1059760811)]) hx hb dX7_bitsOfShare_12 rfl hl (by decide) rfl (fun ls hl => ?_)
  refine k_iconst hC dX7_bitsOfShare_13 ?_
  refine lv_istore_n (lv' := [(3, .int (zi 0)), (2, .int (zi 127)), (1, .float 1059760811), (0, .float 1059760811)]) hx hb dX7_bitsOfShare_14 rfl hl (by decide) rfl (fun ls hl => ?_)
  refine lv_iload_n hx hb dX7_bitsOfShare_15 rfl (lv_at hl 0 rfl) ?_
  refine k_bipush hC dX7_bitsOfShare_16 (by decide) ?_
  refine k_icmp_ge (tgt := 40) hC dX7_bitsOfShare_18 (by decide) (by omega) (fun c2 => absurd c2 (by omega)) (fun c2 => ?_)
  refine lv_fload_n hx hb dX7_bitsOfShare_21 rfl (lv_at hl 2 rfl) ?_
  refine k_fconst1 hC dX7_bitsOfShare_22 ?_
  refine k_fcmp (v := (-1)) hC dX7_bitsOfShare_23 (by decide +kernel) ?_
  refine k_if_ge (tgt := 40) hC dX7_bitsOfShare_24 (by decide) (by omega) (fun c3 => absurd c3 (by omega)) (fun c3 => ?_)
  refine lv_fload_n hx hb dX7_bitsOfShare_27 rfl (lv_at hl 2 rfl) ?_
  refine k_fconst2 hC dX7_bitsOfShare_28 ?_
  refine k_fmul (z := 1068149419) hC dX7_bitsOfShare_29 (by decide +kernel) (by decide +kernel) ?_
  refine lv_fstore_n (lv' := [(1, .float 1068149419), (3, .int (zi 0)), (2, .int (zi 127)), (0, .float 1059760811)]) hx hb dX7_bitsOfShare_30 rfl hl (by decide) rfl (fun ls hl => ?_)
  refine k_iinc (a := 127) (lv' := [(2, .int (zi (127 + (-1)))), (1, .float 1068149419), (3, .int (zi 0)), (0, .float 1059760811)]) hC dX7_bitsOfShare_31 hl (k := 2) rfl (by decide) rfl (fun ls hl => ?_)
  refine k_iinc (a := 0) (lv' := [(3, .int (zi (0 + 1))), (2, .int (zi (127 + (-1)))), (1, .float 1068149419), (0, .float 1059760811)]) hC dX7_bitsOfShare_34 hl (k := 2) rfl (by decide) rfl (fun ls hl => ?_)
  refine lv_goto (tgt := 15) hx hb dX7_bitsOfShare_37 (by decide) ?_
  refine lv_iload_n hx hb dX7_bitsOfShare_15 rfl (lv_at hl 0 rfl) ?_
  refine k_bipush hC dX7_bitsOfShare_16 (by decide) ?_
  refine k_icmp_ge (tgt := 40) hC dX7_bitsOfShare_18 (by decide) (by omega) (fun c4 => absurd c4 (by omega)) (fun c4 => ?_)
  refine lv_fload_n hx hb dX7_bitsOfShare_21 rfl (lv_at hl 2 rfl) ?_
  refine k_fconst1 hC dX7_bitsOfShare_22 ?_
  refine k_fcmp (v := 1) hC dX7_bitsOfShare_23 (by decide +kernel) ?_
  refine k_if_ge (tgt := 40) hC dX7_bitsOfShare_24 (by decide) (by omega) (fun c5 => ?_) (fun c5 => absurd c5 (by omega))
  refine lv_fload_n hx hb dX7_bitsOfShare_40 rfl (lv_at hl 2 rfl) ?_
  refine k_fconst1 hC dX7_bitsOfShare_41 ?_
  refine k_fsub (z := 1051372204) hC dX7_bitsOfShare_42 (by decide +kernel) (by decide +kernel) ?_
  refine lv_ldcwf hx hb hC.2.2.1 (hts (.constantFloat RX7 358 (1258291200)) (by decide +kernel)) dX7_bitsOfShare_43 ?_
  refine k_fmul (z := 1244310188) hC dX7_bitsOfShare_46 (by decide +kernel) (by decide +kernel) ?_
  refine k_f2i (v := 2796203) hC dX7_bitsOfShare_47 (by decide +kernel) ?_
  refine lv_istore_n (lv' := [(3, .int (zi 2796203)), (2, .int (zi (127 + (-1)))), (1, .float 1068149419), (0, .float 1059760811)]) hx hb dX7_bitsOfShare_48 rfl hl (by decide) rfl (fun ls hl => ?_)
  refine lv_iload_n hx hb dX7_bitsOfShare_49 rfl (lv_at hl 1 rfl) ?_
  refine k_bipush hC dX7_bitsOfShare_50 (by decide) ?_
  refine k_ishl (v := 1056964608) hC dX7_bitsOfShare_52 (by decide +kernel) ?_
  refine lv_iload_n hx hb dX7_bitsOfShare_53 rfl (lv_at hl 0 rfl) ?_
  refine k_ior (v := 1059760811) hC dX7_bitsOfShare_54 (by decide +kernel) ?_
  exact k_iret hX rfl hW hS dX7_bitsOfShare_55
set_option maxHeartbeats 1000000 in
set_option maxRecDepth 100000 in
theorem m_bits5 {l : Launch} {Dg : va_G} {cA : Nat → ClassId} {ad : Nat → Int → Nat} {oc : Nat → Nat} (hI : WI ccnt ad) (σ : St) : GI l yX7_bitsOfShare wsX7_bitsOfShare ({ frames := 0, cells := 0, slots := 0, locals := 0 } : Room) Dg cA ccnt ad oc (cE cA ad σ) [.float 1062557013] 1062557013 (cE cA ad σ) := by
  intro sz
  refine g_ent (cc := cX7_bitsOfShare) (maxL := 4) (ret := (some .int)) (by decide) rfl hI (Nat.le_of_ble_eq_true rfl) ?_
  intro pgm env s₀ m₀ bel mth cod hX hW hS hsz ls hl
  subst hsz
  have hC := hX.1
  have hx := hC.1
  have hb := hC.2.1
  have hts := hC.2.2.2.1
  have hl : lv_has ls 4 [(0, .float 1062557013)] := hl
  refine lv_fload_n hx hb dX7_bitsOfShare_0 rfl (lv_at hl 0 rfl) ?_
  refine k_fconst0 hC dX7_bitsOfShare_1 ?_
  refine k_fcmp (v := 1) hC dX7_bitsOfShare_2 (by decide +kernel) ?_
  refine k_if_gt (tgt := 8) hC dX7_bitsOfShare_3 (by decide) (by omega) (fun c1 => ?_) (fun c1 => absurd c1 (by omega))
  refine lv_fload_n hx hb dX7_bitsOfShare_8 rfl (lv_at hl 0 rfl) ?_
  refine lv_fstore_n (lv' := [(1, .float 1062557013), (0, .float 1062557013)]) hx hb dX7_bitsOfShare_9 rfl hl (by decide) rfl (fun ls hl => ?_)
  refine k_bipush hC dX7_bitsOfShare_10 (by decide) ?_
  refine lv_istore_n (lv' := [(2, .int (zi 127)), (1, .float 1062557013), (0, .float 1062557013)]) hx hb dX7_bitsOfShare_12 rfl hl (by decide) rfl (fun ls hl => ?_)
  refine k_iconst hC dX7_bitsOfShare_13 ?_
  refine lv_istore_n (lv' := [(3, .int (zi 0)), (2, .int (zi 127)), (1, .float 1062557013), (0, .float 1062557013)]) hx hb dX7_bitsOfShare_14 rfl hl (by decide) rfl (fun ls hl => ?_)
  refine lv_iload_n hx hb dX7_bitsOfShare_15 rfl (lv_at hl 0 rfl) ?_
  refine k_bipush hC dX7_bitsOfShare_16 (by decide) ?_
  refine k_icmp_ge (tgt := 40) hC dX7_bitsOfShare_18 (by decide) (by omega) (fun c2 => absurd c2 (by omega)) (fun c2 => ?_)
  refine lv_fload_n hx hb dX7_bitsOfShare_21 rfl (lv_at hl 2 rfl) ?_
  refine k_fconst1 hC dX7_bitsOfShare_22 ?_
  refine k_fcmp (v := (-1)) hC dX7_bitsOfShare_23 (by decide +kernel) ?_
  refine k_if_ge (tgt := 40) hC dX7_bitsOfShare_24 (by decide) (by omega) (fun c3 => absurd c3 (by omega)) (fun c3 => ?_)
  refine lv_fload_n hx hb dX7_bitsOfShare_27 rfl (lv_at hl 2 rfl) ?_
  refine k_fconst2 hC dX7_bitsOfShare_28 ?_
  refine k_fmul (z := 1070945621) hC dX7_bitsOfShare_29 (by decide +kernel) (by decide +kernel) ?_
  refine lv_fstore_n (lv' := [(1, .float 1070945621), (3, .int (zi 0)), (2, .int (zi 127)), (0, .float 1062557013)]) hx hb dX7_bitsOfShare_30 rfl hl (by decide) rfl (fun ls hl => ?_)
  refine k_iinc (a := 127) (lv' := [(2, .int (zi (127 + (-1)))), (1, .float 1070945621), (3, .int (zi 0)), (0, .float 1062557013)]) hC dX7_bitsOfShare_31 hl (k := 2) rfl (by decide) rfl (fun ls hl => ?_)
  refine k_iinc (a := 0) (lv' := [(3, .int (zi (0 + 1))), (2, .int (zi (127 + (-1)))), (1, .float 1070945621), (0, .float 1062557013)]) hC dX7_bitsOfShare_34 hl (k := 2) rfl (by decide) rfl (fun ls hl => ?_)
  refine lv_goto (tgt := 15) hx hb dX7_bitsOfShare_37 (by decide) ?_
  refine lv_iload_n hx hb dX7_bitsOfShare_15 rfl (lv_at hl 0 rfl) ?_
  refine k_bipush hC dX7_bitsOfShare_16 (by decide) ?_
  refine k_icmp_ge (tgt := 40) hC dX7_bitsOfShare_18 (by decide) (by omega) (fun c4 => absurd c4 (by omega)) (fun c4 => ?_)
  refine lv_fload_n hx hb dX7_bitsOfShare_21 rfl (lv_at hl 2 rfl) ?_
  refine k_fconst1 hC dX7_bitsOfShare_22 ?_
  refine k_fcmp (v := 1) hC dX7_bitsOfShare_23 (by decide +kernel) ?_
  refine k_if_ge (tgt := 40) hC dX7_bitsOfShare_24 (by decide) (by omega) (fun c5 => ?_) (fun c5 => absurd c5 (by omega))
  refine lv_fload_n hx hb dX7_bitsOfShare_40 rfl (lv_at hl 2 rfl) ?_
  refine k_fconst1 hC dX7_bitsOfShare_41 ?_
  refine k_fsub (z := 1059760810) hC dX7_bitsOfShare_42 (by decide +kernel) (by decide +kernel) ?_
  refine lv_ldcwf hx hb hC.2.2.1 (hts (.constantFloat RX7 358 (1258291200)) (by decide +kernel)) dX7_bitsOfShare_43 ?_
  refine k_fmul (z := 1252698794) hC dX7_bitsOfShare_46 (by decide +kernel) (by decide +kernel) ?_
  refine k_f2i (v := 5592405) hC dX7_bitsOfShare_47 (by decide +kernel) ?_
  refine lv_istore_n (lv' := [(3, .int (zi 5592405)), (2, .int (zi (127 + (-1)))), (1, .float 1070945621), (0, .float 1062557013)]) hx hb dX7_bitsOfShare_48 rfl hl (by decide) rfl (fun ls hl => ?_)
  refine lv_iload_n hx hb dX7_bitsOfShare_49 rfl (lv_at hl 1 rfl) ?_
  refine k_bipush hC dX7_bitsOfShare_50 (by decide) ?_
  refine k_ishl (v := 1056964608) hC dX7_bitsOfShare_52 (by decide +kernel) ?_
  refine lv_iload_n hx hb dX7_bitsOfShare_53 rfl (lv_at hl 0 rfl) ?_
  refine k_ior (v := 1062557013) hC dX7_bitsOfShare_54 (by decide +kernel) ?_
  exact k_iret hX rfl hW hS dX7_bitsOfShare_55
set_option maxHeartbeats 1000000 in
set_option maxRecDepth 100000 in
theorem m_bits6 {l : Launch} {Dg : va_G} {cA : Nat → ClassId} {ad : Nat → Int → Nat} {oc : Nat → Nat} (hI : WI ccnt ad) (σ : St) : GI l yX7_bitsOfShare wsX7_bitsOfShare ({ frames := 0, cells := 0, slots := 0, locals := 0 } : Room) Dg cA ccnt ad oc (cE cA ad σ) [.float 1065353216] 1065353216 (cE cA ad σ) := by
  intro sz
  refine g_ent (cc := cX7_bitsOfShare) (maxL := 4) (ret := (some .int)) (by decide) rfl hI (Nat.le_of_ble_eq_true rfl) ?_
  intro pgm env s₀ m₀ bel mth cod hX hW hS hsz ls hl
  subst hsz
  have hC := hX.1
  have hx := hC.1
  have hb := hC.2.1
  have hts := hC.2.2.2.1
  have hl : lv_has ls 4 [(0, .float 1065353216)] := hl
  refine lv_fload_n hx hb dX7_bitsOfShare_0 rfl (lv_at hl 0 rfl) ?_
  refine k_fconst0 hC dX7_bitsOfShare_1 ?_
  refine k_fcmp (v := 1) hC dX7_bitsOfShare_2 (by decide +kernel) ?_
  refine k_if_gt (tgt := 8) hC dX7_bitsOfShare_3 (by decide) (by omega) (fun c1 => ?_) (fun c1 => absurd c1 (by omega))
  refine lv_fload_n hx hb dX7_bitsOfShare_8 rfl (lv_at hl 0 rfl) ?_
  refine lv_fstore_n (lv' := [(1, .float 1065353216), (0, .float 1065353216)]) hx hb dX7_bitsOfShare_9 rfl hl (by decide) rfl (fun ls hl => ?_)
  refine k_bipush hC dX7_bitsOfShare_10 (by decide) ?_
  refine lv_istore_n (lv' := [(2, .int (zi 127)), (1, .float 1065353216), (0, .float 1065353216)]) hx hb dX7_bitsOfShare_12 rfl hl (by decide) rfl (fun ls hl => ?_)
  refine k_iconst hC dX7_bitsOfShare_13 ?_
  refine lv_istore_n (lv' := [(3, .int (zi 0)), (2, .int (zi 127)), (1, .float 1065353216), (0, .float 1065353216)]) hx hb dX7_bitsOfShare_14 rfl hl (by decide) rfl (fun ls hl => ?_)
  refine lv_iload_n hx hb dX7_bitsOfShare_15 rfl (lv_at hl 0 rfl) ?_
  refine k_bipush hC dX7_bitsOfShare_16 (by decide) ?_
  refine k_icmp_ge (tgt := 40) hC dX7_bitsOfShare_18 (by decide) (by omega) (fun c2 => absurd c2 (by omega)) (fun c2 => ?_)
  refine lv_fload_n hx hb dX7_bitsOfShare_21 rfl (lv_at hl 2 rfl) ?_
  refine k_fconst1 hC dX7_bitsOfShare_22 ?_
  refine k_fcmp (v := 0) hC dX7_bitsOfShare_23 (by decide +kernel) ?_
  refine k_if_ge (tgt := 40) hC dX7_bitsOfShare_24 (by decide) (by omega) (fun c3 => ?_) (fun c3 => absurd c3 (by omega))
  refine lv_fload_n hx hb dX7_bitsOfShare_40 rfl (lv_at hl 2 rfl) ?_
  refine k_fconst1 hC dX7_bitsOfShare_41 ?_
  refine k_fsub (z := 0) hC dX7_bitsOfShare_42 (by decide +kernel) (by decide +kernel) ?_
  refine lv_ldcwf hx hb hC.2.2.1 (hts (.constantFloat RX7 358 (1258291200)) (by decide +kernel)) dX7_bitsOfShare_43 ?_
  refine k_fmul (z := 0) hC dX7_bitsOfShare_46 (by decide +kernel) (by decide +kernel) ?_
  refine k_f2i (v := 0) hC dX7_bitsOfShare_47 (by decide +kernel) ?_
  refine lv_istore_n (lv' := [(3, .int (zi 0)), (2, .int (zi 127)), (1, .float 1065353216), (0, .float 1065353216)]) hx hb dX7_bitsOfShare_48 rfl hl (by decide) rfl (fun ls hl => ?_)
  refine lv_iload_n hx hb dX7_bitsOfShare_49 rfl (lv_at hl 1 rfl) ?_
  refine k_bipush hC dX7_bitsOfShare_50 (by decide) ?_
  refine k_ishl (v := 1065353216) hC dX7_bitsOfShare_52 (by decide +kernel) ?_
  refine lv_iload_n hx hb dX7_bitsOfShare_53 rfl (lv_at hl 0 rfl) ?_
  refine k_ior (v := 1065353216) hC dX7_bitsOfShare_54 (by decide +kernel) ?_
  exact k_iret hX rfl hW hS dX7_bitsOfShare_55
theorem m_bitsOfShare {l : Launch} {Dg : va_G} {cA : Nat → ClassId} {ad : Nat → Int → Nat} {oc : Nat → Nat} (hI : WI ccnt ad) (σ : St) (n : Int) (hn : 0 ≤ n ∧ n ≤ 6) : GI l yX7_bitsOfShare wsX7_bitsOfShare ({ frames := 0, cells := 0, slots := 0, locals := 0 } : Room) Dg cA ccnt ad oc (cE cA ad σ) [.float (hsB n)] (hbB n) (cE cA ad σ) := by
  rcases six_cases hn with rfl | rfl | rfl | rfl | rfl | rfl | rfl
  · exact m_bits0 hI σ
  · exact m_bits1 hI σ
  · exact m_bits2 hI σ
  · exact m_bits3 hI σ
  · exact m_bits4 hI σ
  · exact m_bits5 hI σ
  · exact m_bits6 hI σ
set_option maxHeartbeats 1000000 in
set_option maxRecDepth 100000 in
theorem m_heldBits {l : Launch} {Dg : va_G} {cA : Nat → ClassId} {ad : Nat → Int → Nat} {oc : Nat → Nat} (hI : WI ccnt ad) {N M : Int} (σ : St) (hv : Inv N M σ) : GI l yX7_heldBits wsX7_heldBits ({ frames := 1, cells := 0, slots := 0, locals := 23 } : Room) Dg cA ccnt ad oc (cE cA ad σ) [.ref (ad 0 0)] (hbB (6 - held σ (-1))) (cE cA ad σ) := by
  intro sz
  refine g_ent (cc := cX7_heldBits) (maxL := 1) (ret := (some .int)) (by decide) rfl hI (Nat.le_of_ble_eq_true rfl) ?_
  intro pgm env s₀ m₀ bel mth cod hX hW hS hsz ls hl
  subst hsz
  have hC := hX.1
  have hx := hC.1
  have hb := hC.2.1
  have hts := hC.2.2.2.1
  have hl : lv_has ls 1 [(0, .ref (ad 0 0))] := hl
  have hh := held_rng σ (-1)
  refine lv_aload_n hx hb dX7_heldBits_0 rfl (lv_at hl 0 rfl) ?_
  refine k_callF (As := []) (rest := []) hX hl.1 (m_heldShare hI σ hv) (cwV 0 hts gX7_heldBits_X7_heldShare rfl rfl rfl (by decide +kernel) ⟨Nat.le_of_ble_eq_true rfl, Nat.le_of_ble_eq_true rfl⟩) (rc_KR hC hW) hW hS ⟨Nat.zero_le _, Nat.zero_le _⟩ rfl rfl (Nat.le_of_ble_eq_true rfl) dX7_heldBits_1 (fun H locs hW hS _ _ => ?_)
  refine k_callSI (As := [.float (hsB (6 - held σ (-1)))]) (rest := []) hX hl.1 (m_bitsOfShare hI σ (6 - held σ (-1)) (by omega)) (cwS 1 hts gX7_heldBits_X7_bitsOfShare rfl rfl rfl (by decide +kernel) ⟨Nat.le_of_ble_eq_true rfl, Nat.le_of_ble_eq_true rfl⟩) hW hS ⟨Nat.zero_le _, Nat.zero_le _⟩ rfl rfl (Nat.le_of_ble_eq_true rfl) dX7_heldBits_4 (fun H locs hW hS _ _ => ?_)
  exact k_iret hX rfl hW hS dX7_heldBits_7
set_option maxHeartbeats 1000000 in
set_option maxRecDepth 100000 in
theorem m_meanSeen {l : Launch} {Dg : va_G} {cA : Nat → ClassId} {ad : Nat → Int → Nat} {oc : Nat → Nat} (hI : WI ccnt ad) {N M : Int} (σ : St) (hv : Inv N M σ) (h1 : 0 < σ 28 0 0) (hN : N ≤ 1000000) : GD l yX7_meanSeen wsX7_meanSeen ({ frames := 6, cells := 0, slots := 0, locals := 90 } : Room) Dg cA ccnt ad oc (cE cA ad σ) [.ref (ad 0 0)] (dmB (sumN σ (100 * σ 28 0 0).toNat) (σ 28 0 0)) (cE cA ad σ) := by
  intro sz
  refine g_ent (cc := cX7_meanSeen) (maxL := 5) (ret := (some .double)) (by decide) rfl hI (Nat.le_of_ble_eq_true rfl) ?_
  intro pgm env s₀ m₀ bel mth cod hX hW hS hsz ls hl
  subst hsz
  have hC := hX.1
  have hx := hC.1
  have hb := hC.2.1
  have hts := hC.2.2.2.1
  have hl : lv_has ls 5 [(0, .ref (ad 0 0))] := hl
  have hin_X6 : ∀ w ∈ wsX60, w ∈ wsX7_meanSeen := by decide +kernel
  have hin_X7 : ∀ w ∈ wsX70, w ∈ wsX7_meanSeen := by decide +kernel
  have hl_35 := hts (.fieldLink RX7 35 "KioskReel" "visitors" "[LKioskReel$Visitor;") (by decide +kernel)
  have hl_208 := hts (.fieldLink RX7 208 "KioskReel" "visitorCount" "I") (by decide +kernel)
  have hl_227 := hts (.fieldLink RX7 227 "KioskReel$Visitor" "timesSeen" "[I") (by decide +kernel)
  have hA := hv.A
  unfold IvA at hA
  refine lv_aload_n hx hb dX7_meanSeen_0 rfl (lv_at hl 0 rfl) ?_
  refine cg_KR_visitorCount hC hW hin_X7 hl_208 (v := σ 28 0 0) rfl dX7_meanSeen_1 ?_
  refine k_if_ne (tgt := 17) hC dX7_meanSeen_4 (by decide) (by omega) (fun c1 => ?_) (fun c1 => absurd c1 (by omega))
  refine k_lconst (v := 0) hC dX7_meanSeen_17 (by decide) ?_
  refine lv_lstore_n (lv' := [(1, .long (zl 0)), (0, .ref (ad 0 0))]) hx hb dX7_meanSeen_18 rfl hl (by decide) rfl (fun ls hl => ?_)
  refine k_iconst hC dX7_meanSeen_19 ?_
  refine lv_istore_n (lv' := [(3, .int (zi 0)), (1, .long (zl 0)), (0, .ref (ad 0 0))]) hx hb dX7_meanSeen_20 rfl hl (by decide) rfl (fun ls hl => ?_)
  have loop_21 : ∀ (fuel : Nat) (i : Int) (S : Int), σ 28 0 0 - i < (fuel : Int) → (0 ≤ i ∧ i ≤ σ 28 0 0) → (S = sumN σ (100 * i).toNat) → ∀ (H : Heap) (locs : List Loc), WP Dg ccnt ad (cE cA ad σ) H → va_S (WA ccnt ad s₀.heap.size) s₀.heap H locs → ∀ ls : Array Slot, lv_has ls 5 [(3, .int (zi i)), (1, .long (zl S)), (0, .ref (ad 0 0))] → W pgm l env ({ frames := 6, cells := 0, slots := 0, locals := 90 } : Room) s₀ m₀ ([.ref (ad 0 0)] : List Value).toArray bel mth cod H locs 0 0 (MQ bel (va_Qd (fun (rr : UInt64) (_ : Unit) => rr = (dmB (sumN σ (100 * σ 28 0 0).toNat) (σ 28 0 0))) (gB Dg ccnt ad (cE cA ad σ)) (WA ccnt ad s₀.heap.size)) ([.ref (ad 0 0)] : List Value).toArray s₀ 0 0 (WA ccnt ad s₀.heap.size)) (F0 m₀ 21 ls []) := by
    intro fuel
    induction fuel with
    | zero => intro i S hn i1 i3; exact absurd hn (by omega)
    | succ fuel ih_21 =>
      intro i S hn i1 i3 H locs hW hS ls hl
      refine lv_iload_n hx hb dX7_meanSeen_21 rfl (lv_at hl 0 rfl) ?_
      refine lv_aload_n hx hb dX7_meanSeen_22 rfl (lv_at hl 2 rfl) ?_
      refine cg_KR_visitorCount hC hW hin_X7 hl_208 (v := σ 28 0 0) rfl dX7_meanSeen_23 ?_
      refine k_icmp_ge (tgt := 67) hC dX7_meanSeen_26 (by decide) (by omega) (fun c2 => ?_) (fun c2 => ?_)
      · refine lv_lload_n hx hb dX7_meanSeen_67 rfl (lv_at hl 1 rfl) ?_
        refine lv_l2d hx hb dX7_meanSeen_68 ?_
        refine lv_aload_n hx hb dX7_meanSeen_69 rfl (lv_at hl 2 rfl) ?_
        refine cg_KR_visitorCount hC hW hin_X7 hl_208 (v := σ 28 0 0) rfl dX7_meanSeen_70 ?_
        refine lv_i2d hx hb dX7_meanSeen_73 ?_
        refine k_ddivM hC dX7_meanSeen_74 (by omega) ?_
        exact k_dret hX (by rw [i3, show i = σ 28 0 0 by omega]) hW hS dX7_meanSeen_75
      · refine k_iconst hC dX7_meanSeen_29 ?_
        refine lv_istore (lv' := [(4, .int (zi 0)), (3, .int (zi i)), (1, .long (zl S)), (0, .ref (ad 0 0))]) hx hb dX7_meanSeen_30 hl (by decide) rfl (fun ls hl => ?_)
        have loop_32 : ∀ (fuel : Nat) (j : Int) (T : Int), 100 - j < (fuel : Int) → (0 ≤ j ∧ j ≤ 100) → (T = sumN σ (100 * i + j).toNat) → ∀ (H : Heap) (locs : List Loc), WP Dg ccnt ad (cE cA ad σ) H → va_S (WA ccnt ad s₀.heap.size) s₀.heap H locs → ∀ ls : Array Slot, lv_has ls 5 [(4, .int (zi j)), (3, .int (zi i)), (1, .long (zl T)), (0, .ref (ad 0 0))] → W pgm l env ({ frames := 6, cells := 0, slots := 0, locals := 90 } : Room) s₀ m₀ ([.ref (ad 0 0)] : List Value).toArray bel mth cod H locs 0 0 (MQ bel (va_Qd (fun (rr : UInt64) (_ : Unit) => rr = (dmB (sumN σ (100 * σ 28 0 0).toNat) (σ 28 0 0))) (gB Dg ccnt ad (cE cA ad σ)) (WA ccnt ad s₀.heap.size)) ([.ref (ad 0 0)] : List Value).toArray s₀ 0 0 (WA ccnt ad s₀.heap.size)) (F0 m₀ 32 ls []) := by
          intro fuel
          induction fuel with
          | zero => intro j T hn j1 j2; exact absurd hn (by omega)
          | succ fuel ih_32 =>
            intro j T hn j1 j2 H locs hW hS ls hl
            refine lv_iload hx hb dX7_meanSeen_32 (lv_at hl 0 rfl) ?_
            refine k_bipush hC dX7_meanSeen_34 (by decide) ?_
            refine k_icmp_ge (tgt := 61) hC dX7_meanSeen_36 (by decide) (by omega) (fun c3 => ?_) (fun c3 => ?_)
            · refine k_iinc (a := i) (lv' := [(3, .int (zi (i + 1))), (4, .int (zi j)), (1, .long (zl T)), (0, .ref (ad 0 0))]) hC dX7_meanSeen_61 hl (k := 1) rfl (by decide) rfl (fun ls hl => ?_)
              refine lv_goto (tgt := 21) hx hb dX7_meanSeen_64 (by decide) ?_
              have hl := Eq.mp (congrArg (fun z : Int => lv_has ls 5 [(3, .int (zi z)), (4, .int (zi j)), (1, .long (zl T)), (0, .ref (ad 0 0))]) (show (i + 1 : Int) = (i + 1) by omega)) hl
              exact ih_21 (i + 1) T (by omega) (by omega) (by rw [j2, show 100 * i + j = 100 * (i + 1) by omega]) _ _ hW hS _ (lv_sub hl [0, 2, 3] rfl)
            · refine lv_lload_n hx hb dX7_meanSeen_39 rfl (lv_at hl 2 rfl) ?_
              refine lv_aload_n hx hb dX7_meanSeen_40 rfl (lv_at hl 3 rfl) ?_
              refine cg_KR_visitors hC hW hin_X7 hl_35 dX7_meanSeen_41 ?_
              refine lv_iload_n hx hb dX7_meanSeen_44 rfl (lv_at hl 1 rfl) ?_
              refine ca_visitors hC hW (by omega) dX7_meanSeen_45 ?_
              refine cg_Visitor_timesSeen hC hW hin_X6 hl_227 (by omega) dX7_meanSeen_46 ?_
              refine lv_iload hx hb dX7_meanSeen_49 (lv_at hl 0 rfl) ?_
              have hV2 := (hv.V i (by omega) (by omega)).2 j (by omega) (by omega)
              refine ca_seen hC hW (by omega) (by omega) (v := σ 19 i j) rfl dX7_meanSeen_51 ?_
              refine k_i2l hC dX7_meanSeen_52 (by omega) ?_
              refine k_ladd hC dX7_meanSeen_53 ?_
              refine lv_lstore_n (lv' := [(1, .long (zl (T + (σ 19 i j)))), (4, .int (zi j)), (3, .int (zi i)), (0, .ref (ad 0 0))]) hx hb dX7_meanSeen_54 rfl hl (by decide) rfl (fun ls hl => ?_)
              refine k_iinc (a := j) (lv' := [(4, .int (zi (j + 1))), (1, .long (zl (T + (σ 19 i j)))), (3, .int (zi i)), (0, .ref (ad 0 0))]) hC dX7_meanSeen_55 hl (k := 1) rfl (by decide) rfl (fun ls hl => ?_)
              refine lv_goto (tgt := 32) hx hb dX7_meanSeen_58 (by decide) ?_
              have hl := Eq.mp (congrArg (fun z : Int => lv_has ls 5 [(4, .int (zi z)), (1, .long (zl (T + (σ 19 i j)))), (3, .int (zi i)), (0, .ref (ad 0 0))]) (show (j + 1 : Int) = (j + 1) by omega)) hl
              exact ih_32 (j + 1) (T + (σ 19 i j)) (by omega) (by omega) (by rw [show 100 * i + (j + 1) = 100 * i + j + 1 by omega, sumN_s σ i1.1 (by omega)]; omega) _ _ hW hS _ (lv_sub hl [0, 2, 1, 3] rfl)
        exact loop_32 (Int.toNat (100 - 0) + 1) 0 S (by omega) (by omega) (by rw [Int.add_zero]; exact i3) _ _ hW hS _ (lv_sub hl [0, 1, 2, 3] rfl)
  exact loop_21 (Int.toNat (σ 28 0 0 - 0) + 1) 0 0 (by omega) (by omega) rfl _ _ hW hS _ (lv_sub hl [0, 1, 2] rfl)
set_option maxHeartbeats 1000000 in
set_option maxRecDepth 100000 in
theorem m_meanSeen_x {l : Launch} {Dg : va_G} {cA : Nat → ClassId} {ad : Nat → Int → Nat} {oc : Nat → Nat} (hI : WI ccnt ad) (hfl : l.stackTraces = false) (σ : St) (h1 : σ 28 0 0 = 0) : GX l yX7_meanSeen wsX7_meanSeen ({ frames := 6, cells := 1, slots := 6, locals := 90 } : Room) Dg cA ccnt ad oc (cE cA ad σ) [.ref (ad 0 0)] "java/lang/ArithmeticException" := by
  intro sz
  refine gx_ent (cc := cX7_meanSeen) (maxL := 5) (ret := (some .double)) (by decide) rfl hI (Nat.le_of_ble_eq_true rfl) ?_
  intro pgm env s₀ m₀ bel mth cod hX hno hW hS hsz ls hl
  subst hsz
  have hC := hX.1
  have hx := hC.1
  have hb := hC.2.1
  have hts := hC.2.2.2.1
  have hl : lv_has ls 5 [(0, .ref (ad 0 0))] := hl
  have hin_X7 : ∀ w ∈ wsX70, w ∈ wsX7_meanSeen := by decide +kernel
  have hl_208 := hts (.fieldLink RX7 208 "KioskReel" "visitorCount" "I") (by decide +kernel)
  refine lv_aload_n hx hb dX7_meanSeen_0 rfl (lv_at hl 0 rfl) ?_
  refine cg_KR_visitorCount hC hW hin_X7 hl_208 (v := σ 28 0 0) rfl dX7_meanSeen_1 ?_
  refine k_if_ne (tgt := 17) hC dX7_meanSeen_4 (by decide) (by omega) (fun c1 => absurd c1 (by omega)) (fun c1 => ?_)
  exact k_throw (rest := []) (text := "there are no visitors") hX rfl hno hl.1 hfl (by decide +kernel) (by decide +kernel) (by decide +kernel) (by decide +kernel) (by decide +kernel) (by decide +kernel) (by decide +kernel) hW hS dX7_meanSeen_7 dX7_meanSeen_10 dX7_meanSeen_11 dX7_meanSeen_13 dX7_meanSeen_16 ⟨Nat.le_of_ble_eq_true rfl, Nat.le_of_ble_eq_true rfl, Nat.le_of_ble_eq_true rfl, Nat.le_of_ble_eq_true rfl⟩
set_option maxHeartbeats 1000000 in
set_option maxRecDepth 100000 in
theorem n_heldShare {l : Launch} {Dg : va_G} {cA : Nat → ClassId} {ad : Nat → Int → Nat} {oc : Nat → Nat} (hI : WI mcnt ad) {N M : Int} {τ : St} (σ : St) (hτ : τ = ups σ 31 0 0 0) (hv : Inv N M τ) : GF l yX8_heldShare wsX8_heldShare ({ frames := 1, cells := 0, slots := 0, locals := 23 } : Room) Dg cA mcnt ad oc (mE cA ad σ) [.ref (ad 0 0)] (hsB (6 - held τ (-1))) (mE cA ad τ) := by
  intro sz
  refine g_ent (cc := cX8_heldShare) (maxL := 1) (ret := (some .float)) (by decide) rfl hI (Nat.le_of_ble_eq_true rfl) ?_
  intro pgm env s₀ m₀ bel mth cod hX hW hS hsz ls hl
  subst hsz
  have hC := hX.1
  have hx := hC.1
  have hb := hC.2.1
  have hts := hC.2.2.2.1
  have hl : lv_has ls 1 [(0, .ref (ad 0 0))] := hl
  have hin_X8 : ∀ w ∈ wsX80, w ∈ wsX8_heldShare := by decide +kernel
  have hl_89 := hts (.fieldLink RX8 89 "KioskReelModel" "thrown" "I") (by decide +kernel)
  have hh := held_rng τ (-1)
  refine lv_aload_n hx hb dX8_heldShare_0 rfl (lv_at hl 0 rfl) ?_
  refine k_iconst hC dX8_heldShare_1 ?_
  refine mp_thrown_f hC hW hin_X8 hl_89 hS dX8_heldShare_2 (fun H locs hW hS => ?_)
  obtain ⟨σ1, hσ1⟩ : ∃ z, z = ups σ 31 0 0 0 := ⟨_, rfl⟩
  rw [← hσ1] at hW
  have hW : WP Dg mcnt ad (mE cA ad τ) _ := (sw hW (by rw [hσ1, hτ]))
  refine k_bipush hC dX8_heldShare_5 (by decide) ?_
  refine lv_aload_n hx hb dX8_heldShare_7 rfl (lv_at hl 0 rfl) ?_
  refine k_iconst hC dX8_heldShare_8 ?_
  refine k_callI (As := [.int (zi (-1))]) (rest := [.int (zi 6)]) hX hl.1 (n_held hI τ (-1) hv (by omega)) (cwV 1 hts gX8_heldShare_X8_held rfl rfl rfl (by decide +kernel) ⟨Nat.le_of_ble_eq_true rfl, Nat.le_of_ble_eq_true rfl⟩) (rc_M hC hW) hW hS ⟨Nat.zero_le _, Nat.zero_le _⟩ rfl rfl (Nat.le_of_ble_eq_true rfl) dX8_heldShare_9 (fun H locs hW hS _ _ => ?_)
  refine k_isub hC dX8_heldShare_12 ?_
  refine lv_i2f hx hb dX8_heldShare_13 ?_
  refine lv_ldcf hx hb hC.2.2.1 (hts (.constantFloat RX8 194 (1086324736)) (by decide +kernel)) dX8_heldShare_14 ?_
  refine k_fdiv6 hC dX8_heldShare_16 (by omega) ?_
  exact k_fret hX rfl hW hS dX8_heldShare_17
set_option maxHeartbeats 1000000 in
set_option maxRecDepth 100000 in
theorem n_isNaN {l : Launch} {Dg : va_G} {cA : Nat → ClassId} {ad : Nat → Int → Nat} {oc : Nat → Nat} (hI : WI mcnt ad) (σ : St) (n : Int) (hn : 0 ≤ n ∧ n ≤ 6) : GI l yJxf58ca_isNaN_12338 wsJxf58ca_isNaN_12338 ({ frames := 0, cells := 0, slots := 0, locals := 0 } : Room) Dg cA mcnt ad oc (mE cA ad σ) [.float (hsB n)] 0 (mE cA ad σ) := by
  intro sz
  refine g_entF (cc := cJxf58ca_isNaN_12338) (maxL := 1) (ret := (some .boolean)) (by decide +kernel) rfl hI (Nat.le_of_ble_eq_true rfl) ?_
  intro pgm env s₀ m₀ bel mth cod hX hW hS hsz ls hl
  subst hsz
  have hC := hX.1
  have hx := hC.1
  have hb := hC.2.1
  have hts := hC.2.2.2.1
  have hl : lv_has ls 1 [(0, .float (hsB n))] := hl
  refine lv_fload_n hx hb dJxf58ca_isNaN_12338_0 rfl (lv_at hl 0 rfl) ?_
  refine lv_fload_n hx hb dJxf58ca_isNaN_12338_1 rfl (lv_at hl 0 rfl) ?_
  refine k_fcmp (v := 0) hC dJxf58ca_isNaN_12338_2 (hsB_cmp hn) ?_
  refine k_if_eq (tgt := 10) hC dJxf58ca_isNaN_12338_3 (by decide) (by omega) (fun c1 => ?_) (fun c1 => absurd c1 (by omega))
  refine k_iconst hC dJxf58ca_isNaN_12338_10 ?_
  exact k_zret hX (by omega) rfl hW hS dJxf58ca_isNaN_12338_11
set_option maxHeartbeats 1000000 in
set_option maxRecDepth 100000 in
theorem n_toBits {l : Launch} {Dg : va_G} {cA : Nat → ClassId} {ad : Nat → Int → Nat} {oc : Nat → Nat} (hI : WI mcnt ad) (σ : St) (n : Int) (hn : 0 ≤ n ∧ n ≤ 6) : GI l yJxf58ca_floatToIntBits_5c35a wsJxf58ca_floatToIntBits_5c35a ({ frames := 1, cells := 0, slots := 0, locals := 20 } : Room) Dg cA mcnt ad oc (mE cA ad σ) [.float (hsB n)] (hbB n) (mE cA ad σ) := by
  intro sz
  refine g_entF (cc := cJxf58ca_floatToIntBits_5c35a) (maxL := 1) (ret := (some .int)) (by decide +kernel) rfl hI (Nat.le_of_ble_eq_true rfl) ?_
  intro pgm env s₀ m₀ bel mth cod hX hW hS hsz ls hl
  subst hsz
  have hC := hX.1
  have hx := hC.1
  have hb := hC.2.1
  have hts := hC.2.2.2.1
  have hl : lv_has ls 1 [(0, .float (hsB n))] := hl
  refine lv_fload_n hx hb dJxf58ca_floatToIntBits_5c35a_0 rfl (lv_at hl 0 rfl) ?_
  refine k_callSI (As := [.float (hsB n)]) (rest := []) hX hl.1 (n_isNaN hI σ n hn) (va_cwS 1 hts gJxf58ca_floatToIntBits_5c35a_Jxf58ca_isNaN_12338 rfl rfl rfl (by decide +kernel) ⟨Nat.le_of_ble_eq_true rfl, Nat.le_of_ble_eq_true rfl⟩) hW hS ⟨Nat.zero_le _, Nat.zero_le _⟩ rfl rfl (Nat.le_of_ble_eq_true rfl) dJxf58ca_floatToIntBits_5c35a_1 (fun H locs hW hS _ _ => ?_)
  refine k_if_ne (tgt := 12) hC dJxf58ca_floatToIntBits_5c35a_4 (by decide) (by omega) (fun c1 => absurd c1 (by omega)) (fun c1 => ?_)
  refine lv_fload_n hx hb dJxf58ca_floatToIntBits_5c35a_7 rfl (lv_at hl 0 rfl) ?_
  refine vn_f2i hx hb (hX.2.1.trans hl.1.symm) hC.2.2.1 (hts (.methodLink RJxf58ca 74 ⟨"java/lang/Float", "floatToRawIntBits", "(F)I"⟩) (by decide +kernel)) (hts (.native ⟨"java/lang/Float", "floatToRawIntBits", "(F)I"⟩) (by decide +kernel)) (hts (.static ⟨"java/lang/Float", "floatToRawIntBits", "(F)I"⟩) (by decide +kernel)) (hts (.initialized "java/lang/Float") (by decide +kernel)) (Nat.le_of_ble_eq_true rfl) (Nat.le_of_ble_eq_true rfl) dJxf58ca_floatToIntBits_5c35a_8 ?_
  rw [hsB_bits hn]
  exact k_iret hX rfl hW hS dJxf58ca_floatToIntBits_5c35a_11
set_option maxHeartbeats 1000000 in
set_option maxRecDepth 100000 in
theorem n_heldBits {l : Launch} {Dg : va_G} {cA : Nat → ClassId} {ad : Nat → Int → Nat} {oc : Nat → Nat} (hI : WI mcnt ad) {N M : Int} {τ : St} (σ : St) (hτ : τ = ups σ 31 0 0 0) (hv : Inv N M τ) : GI l yX8_heldBits wsX8_heldBits ({ frames := 2, cells := 0, slots := 0, locals := 43 } : Room) Dg cA mcnt ad oc (mE cA ad σ) [.ref (ad 0 0)] (hbB (6 - held τ (-1))) (mE cA ad τ) := by
  intro sz
  refine g_ent (cc := cX8_heldBits) (maxL := 1) (ret := (some .int)) (by decide) rfl hI (Nat.le_of_ble_eq_true rfl) ?_
  intro pgm env s₀ m₀ bel mth cod hX hW hS hsz ls hl
  subst hsz
  have hC := hX.1
  have hx := hC.1
  have hb := hC.2.1
  have hts := hC.2.2.2.1
  have hl : lv_has ls 1 [(0, .ref (ad 0 0))] := hl
  have hh := held_rng τ (-1)
  refine lv_aload_n hx hb dX8_heldBits_0 rfl (lv_at hl 0 rfl) ?_
  refine k_callF (As := []) (rest := []) hX hl.1 (n_heldShare hI σ hτ hv) (cwV 0 hts gX8_heldBits_X8_heldShare rfl rfl rfl (by decide +kernel) ⟨Nat.le_of_ble_eq_true rfl, Nat.le_of_ble_eq_true rfl⟩) (rc_M hC hW) hW hS ⟨Nat.zero_le _, Nat.zero_le _⟩ rfl rfl (Nat.le_of_ble_eq_true rfl) dX8_heldBits_1 (fun H locs hW hS _ _ => ?_)
  refine k_callSI (As := [.float (hsB (6 - held τ (-1)))]) (rest := []) hX hl.1 (n_toBits hI τ (6 - held τ (-1)) (by omega)) (va_cwS 1 hts gX8_heldBits_Jxf58ca_floatToIntBits_5c35a rfl rfl rfl (by decide +kernel) ⟨Nat.le_of_ble_eq_true rfl, Nat.le_of_ble_eq_true rfl⟩) hW hS ⟨Nat.zero_le _, Nat.zero_le _⟩ rfl rfl (Nat.le_of_ble_eq_true rfl) dX8_heldBits_4 (fun H locs hW hS _ _ => ?_)
  exact k_iret hX rfl hW hS dX8_heldBits_7
set_option maxHeartbeats 1000000 in
set_option maxRecDepth 100000 in
theorem n_meanSeen {l : Launch} {Dg : va_G} {cA : Nat → ClassId} {ad : Nat → Int → Nat} {oc : Nat → Nat} (hI : WI mcnt ad) {N M : Int} {τ : St} (σ : St) (hτ : τ = ups σ 31 0 0 0) (hv : Inv N M τ) (h1 : 0 < τ 28 0 0) (hN : N ≤ 1000000) : GD l yX8_meanSeen wsX8_meanSeen ({ frames := 1, cells := 0, slots := 0, locals := 22 } : Room) Dg cA mcnt ad oc (mE cA ad σ) [.ref (ad 0 0)] (dmB (sumN τ (100 * τ 28 0 0).toNat) (τ 28 0 0)) (mE cA ad τ) := by
  intro sz
  refine g_ent (cc := cX8_meanSeen) (maxL := 4) (ret := (some .double)) (by decide) rfl hI (Nat.le_of_ble_eq_true rfl) ?_
  intro pgm env s₀ m₀ bel mth cod hX hW hS hsz ls hl
  subst hsz
  have hC := hX.1
  have hx := hC.1
  have hb := hC.2.1
  have hts := hC.2.2.2.1
  have hl : lv_has ls 4 [(0, .ref (ad 0 0))] := hl
  have hin_X8 : ∀ w ∈ wsX80, w ∈ wsX8_meanSeen := by decide +kernel
  have hl_80 := hts (.fieldLink RX8 80 "KioskReelModel" "saw" "[I") (by decide +kernel)
  have hl_173 := hts (.fieldLink RX8 173 "KioskReelModel" "visitors" "I") (by decide +kernel)
  have eσ : ∀ (t : Nat) (i j : Int), t ≠ 31 → σ t i j = τ t i j := fun t i j h => by rw [hτ, ups_t _ h]
  have e26 := eσ 26 0 0 (by decide)
  have e27 := eσ 27 0 0 (by decide)
  have e28 := eσ 28 0 0 (by decide)
  have hA := hv.A
  unfold IvA at hA
  refine k_lconst (v := 0) hC dX8_meanSeen_0 (by decide) ?_
  refine lv_lstore_n (lv' := [(1, .long (zl 0)), (0, .ref (ad 0 0))]) hx hb dX8_meanSeen_1 rfl hl (by decide) rfl (fun ls hl => ?_)
  refine k_iconst hC dX8_meanSeen_2 ?_
  refine lv_istore_n (lv' := [(3, .int (zi 0)), (1, .long (zl 0)), (0, .ref (ad 0 0))]) hx hb dX8_meanSeen_3 rfl hl (by decide) rfl (fun ls hl => ?_)
  have loop_4 : ∀ (fuel : Nat) (k : Int) (S : Int), 100 * τ 28 0 0 - k < (fuel : Int) → (0 ≤ k ∧ k ≤ 100 * τ 28 0 0) → (S = sumN τ k.toNat) → ∀ (H : Heap) (locs : List Loc), WP Dg mcnt ad (mE cA ad σ) H → va_S (WA mcnt ad s₀.heap.size) s₀.heap H locs → ∀ ls : Array Slot, lv_has ls 4 [(3, .int (zi k)), (1, .long (zl S)), (0, .ref (ad 0 0))] → W pgm l env ({ frames := 1, cells := 0, slots := 0, locals := 22 } : Room) s₀ m₀ ([.ref (ad 0 0)] : List Value).toArray bel mth cod H locs 0 0 (MQ bel (va_Qd (fun (rr : UInt64) (_ : Unit) => rr = (dmB (sumN τ (100 * τ 28 0 0).toNat) (τ 28 0 0))) (gB Dg mcnt ad (mE cA ad τ)) (WA mcnt ad s₀.heap.size)) ([.ref (ad 0 0)] : List Value).toArray s₀ 0 0 (WA mcnt ad s₀.heap.size)) (F0 m₀ 4 ls []) := by
    intro fuel
    induction fuel with
    | zero => intro k S hn i1 i3; exact absurd hn (by omega)
    | succ fuel ih_4 =>
      intro k S hn i1 i3 H locs hW hS ls hl
      refine lv_iload_n hx hb dX8_meanSeen_4 rfl (lv_at hl 0 rfl) ?_
      refine k_bipush hC dX8_meanSeen_5 (by decide) ?_
      refine lv_aload_n hx hb dX8_meanSeen_7 rfl (lv_at hl 2 rfl) ?_
      refine mg_visitors_f hC hW hin_X8 hl_173 (v := σ 28 0 0) rfl dX8_meanSeen_8 ?_
      refine k_imul hC dX8_meanSeen_11 ?_
      refine k_icmp_ge (tgt := 31) hC dX8_meanSeen_12 (by decide) (by omega) (fun c1 => ?_) (fun c1 => ?_)
      · refine lv_aload_n hx hb dX8_meanSeen_31 rfl (lv_at hl 2 rfl) ?_
        refine lv_aload_n hx hb dX8_meanSeen_32 rfl (lv_at hl 2 rfl) ?_
        refine mg_visitors_f hC hW hin_X8 hl_173 (v := σ 28 0 0) rfl dX8_meanSeen_33 ?_
        refine k_if_ne (tgt := 43) hC dX8_meanSeen_36 (by decide) (by omega) (fun c2 => ?_) (fun c2 => absurd c2 (by omega))
        refine k_iconst hC dX8_meanSeen_43 ?_
        refine k_iconst hC dX8_meanSeen_44 ?_
        refine k_callI (As := [.int (zi 0), .int (zi 1)]) (rest := []) hX hl.1 (n_thr0 hI σ 1 (by omega)) (cwV 2 hts gX8_meanSeen_X8_isThrown rfl rfl rfl (by decide +kernel) ⟨Nat.le_of_ble_eq_true rfl, Nat.le_of_ble_eq_true rfl⟩) (rc_M hC hW) hW hS ⟨Nat.zero_le _, Nat.zero_le _⟩ rfl rfl (Nat.le_of_ble_eq_true rfl) dX8_meanSeen_45 (fun H locs hW hS _ _ => ?_)
        have hW : WP Dg mcnt ad (mE cA ad τ) _ := (sw hW hτ.symm)
        refine k_if_eq (tgt := 55) hC dX8_meanSeen_48 (by decide) (by omega) (fun c3 => ?_) (fun c3 => absurd c3 (by omega))
        refine lv_lload_n hx hb dX8_meanSeen_55 rfl (lv_at hl 1 rfl) ?_
        refine lv_l2d hx hb dX8_meanSeen_56 ?_
        refine lv_aload_n hx hb dX8_meanSeen_57 rfl (lv_at hl 2 rfl) ?_
        refine mg_visitors_f hC hW hin_X8 hl_173 (v := τ 28 0 0) rfl dX8_meanSeen_58 ?_
        refine lv_i2d hx hb dX8_meanSeen_61 ?_
        refine k_ddivM hC dX8_meanSeen_62 (by omega) ?_
        exact k_dret hX (by rw [i3, show k = 100 * τ 28 0 0 by omega]) hW hS dX8_meanSeen_63
      · refine lv_lload_n hx hb dX8_meanSeen_15 rfl (lv_at hl 1 rfl) ?_
        refine lv_aload_n hx hb dX8_meanSeen_16 rfl (lv_at hl 2 rfl) ?_
        refine mg_saw hC hW hin_X8 hl_80 dX8_meanSeen_17 ?_
        refine lv_iload_n hx hb dX8_meanSeen_20 rfl (lv_at hl 0 rfl) ?_
        refine ma_saw hC hW (k / 100) (k % 100) (by omega) (by omega) (by omega) (v := τ 19 (k / 100) (k % 100)) (eσ _ _ _ (by decide)) dX8_meanSeen_21 ?_
        have hV2 := (hv.V (k / 100) (by omega) (by omega)).2 (k % 100) (by omega) (by omega)
        refine k_i2l hC dX8_meanSeen_22 (by omega) ?_
        refine k_ladd hC dX8_meanSeen_23 ?_
        refine lv_lstore_n (lv' := [(1, .long (zl (S + (τ 19 (k / 100) (k % 100))))), (3, .int (zi k)), (0, .ref (ad 0 0))]) hx hb dX8_meanSeen_24 rfl hl (by decide) rfl (fun ls hl => ?_)
        refine k_iinc (a := k) (lv' := [(3, .int (zi (k + 1))), (1, .long (zl (S + (τ 19 (k / 100) (k % 100))))), (0, .ref (ad 0 0))]) hC dX8_meanSeen_25 hl (k := 1) rfl (by decide) rfl (fun ls hl => ?_)
        refine lv_goto (tgt := 4) hx hb dX8_meanSeen_28 (by decide) ?_
        have hl := Eq.mp (congrArg (fun z : Int => lv_has ls 4 [(3, .int (zi z)), (1, .long (zl (S + (τ 19 (k / 100) (k % 100))))), (0, .ref (ad 0 0))]) (show (k + 1 : Int) = (k + 1) by omega)) hl
        exact ih_4 (k + 1) (S + (τ 19 (k / 100) (k % 100))) (by omega) (by omega) (by rw [sumN_k τ i1.1]; omega) _ _ hW hS _ (lv_sub hl [0, 1, 2] rfl)
  exact loop_4 (Int.toNat (100 * τ 28 0 0 - 0) + 1) 0 0 (by omega) (by omega) rfl _ _ hW hS _ (lv_sub hl [0, 1, 2] rfl)
set_option maxHeartbeats 1000000 in
set_option maxRecDepth 100000 in
theorem n_meanSeen_x {l : Launch} {Dg : va_G} {cA : Nat → ClassId} {ad : Nat → Int → Nat} {oc : Nat → Nat} (hI : WI mcnt ad) (σ : St) (h1 : σ 28 0 0 = 0) : GD l yX8_meanSeen wsX8_meanSeen ({ frames := 1, cells := 0, slots := 0, locals := 22 } : Room) Dg cA mcnt ad oc (mE cA ad σ) [.ref (ad 0 0)] FP.dconst0 (mE cA ad (ups σ 31 0 0 1)) := by
  intro sz
  refine g_ent (cc := cX8_meanSeen) (maxL := 4) (ret := (some .double)) (by decide) rfl hI (Nat.le_of_ble_eq_true rfl) ?_
  intro pgm env s₀ m₀ bel mth cod hX hW hS hsz ls hl
  subst hsz
  have hC := hX.1
  have hx := hC.1
  have hb := hC.2.1
  have hts := hC.2.2.2.1
  have hl : lv_has ls 4 [(0, .ref (ad 0 0))] := hl
  have hin_X8 : ∀ w ∈ wsX80, w ∈ wsX8_meanSeen := by decide +kernel
  have hl_173 := hts (.fieldLink RX8 173 "KioskReelModel" "visitors" "I") (by decide +kernel)
  refine k_lconst (v := 0) hC dX8_meanSeen_0 (by decide) ?_
  refine lv_lstore_n (lv' := [(1, .long (zl 0)), (0, .ref (ad 0 0))]) hx hb dX8_meanSeen_1 rfl hl (by decide) rfl (fun ls hl => ?_)
  refine k_iconst hC dX8_meanSeen_2 ?_
  refine lv_istore_n (lv' := [(3, .int (zi 0)), (1, .long (zl 0)), (0, .ref (ad 0 0))]) hx hb dX8_meanSeen_3 rfl hl (by decide) rfl (fun ls hl => ?_)
  refine lv_iload_n hx hb dX8_meanSeen_4 rfl (lv_at hl 0 rfl) ?_
  refine k_bipush hC dX8_meanSeen_5 (by decide) ?_
  refine lv_aload_n hx hb dX8_meanSeen_7 rfl (lv_at hl 2 rfl) ?_
  refine mg_visitors_f hC hW hin_X8 hl_173 (v := σ 28 0 0) rfl dX8_meanSeen_8 ?_
  refine k_imul hC dX8_meanSeen_11 ?_
  refine k_icmp_ge (tgt := 31) hC dX8_meanSeen_12 (by decide) (by omega) (fun c1 => ?_) (fun c1 => absurd c1 (by omega))
  refine lv_aload_n hx hb dX8_meanSeen_31 rfl (lv_at hl 2 rfl) ?_
  refine lv_aload_n hx hb dX8_meanSeen_32 rfl (lv_at hl 2 rfl) ?_
  refine mg_visitors_f hC hW hin_X8 hl_173 (v := σ 28 0 0) rfl dX8_meanSeen_33 ?_
  refine k_if_ne (tgt := 43) hC dX8_meanSeen_36 (by decide) (by omega) (fun c2 => absurd c2 (by omega)) (fun c2 => ?_)
  refine k_iconst hC dX8_meanSeen_39 ?_
  refine lv_goto (tgt := 44) hx hb dX8_meanSeen_40 (by decide) ?_
  refine k_iconst hC dX8_meanSeen_44 ?_
  refine k_callI (As := [.int (zi 1), .int (zi 1)]) (rest := []) hX hl.1 (n_thr1 hI σ 1 (by omega)) (cwV 2 hts gX8_meanSeen_X8_isThrown rfl rfl rfl (by decide +kernel) ⟨Nat.le_of_ble_eq_true rfl, Nat.le_of_ble_eq_true rfl⟩) (rc_M hC hW) hW hS ⟨Nat.zero_le _, Nat.zero_le _⟩ rfl rfl (Nat.le_of_ble_eq_true rfl) dX8_meanSeen_45 (fun H locs hW hS _ _ => ?_)
  obtain ⟨σ1, hσ1⟩ : ∃ z, z = ups σ 31 0 0 1 := ⟨_, rfl⟩
  rw [← hσ1] at hW
  refine k_if_eq (tgt := 55) hC dX8_meanSeen_48 (by decide) (by omega) (fun c3 => absurd c3 (by omega)) (fun c3 => ?_)
  refine lv_dconst0 hx hb dX8_meanSeen_51 ?_
  refine lv_goto (tgt := 63) hx hb dX8_meanSeen_52 (by decide) ?_
  have hW : WP Dg mcnt ad (mE cA ad (ups σ 31 0 0 1)) _ := (sw hW (by first | (rw [hσ1]; done) | (rw [hσ1]; exact ups_ups _ _ _ _ _ _) | (rw [hσ1, ups_ups, ups_ups]; done)))
  exact k_dret hX rfl hW hS dX8_meanSeen_63
end M12
