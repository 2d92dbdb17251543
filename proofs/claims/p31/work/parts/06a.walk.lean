section M1
set_option maxHeartbeats 4000000 in
set_option maxRecDepth 100000 in
theorem m_insertAt {l : Launch} {Dg : va_G} {cA : Nat → ClassId} {ad : Nat → Int → Nat} {oc : Nat → Nat} (hI : WI ccnt ad) (σ : St) (r place k n : Int) (h1 : 0 ≤ r ∧ r < 32) (h2 : 0 ≤ place ∧ place ≤ σ 3 r 0) (h3 : σ 3 r 0 < 20) (h4 : 0 ≤ k ∧ k < 65536) (hK : ∀ j : Int, 0 ≤ j → j < 20 → 0 ≤ σ 1 r j ∧ σ 1 r j < 65536) : GV l yX5_insertAt wsX5_insertAt ({ frames := 0, cells := 0, slots := 0, locals := 0 } : Room) Dg cA ccnt ad oc (cE cA ad σ) [.ref (ad 6 r), .int (zi place), .int (zi k), .int (zi n)] (cE cA ad (fIns σ r place k n)) := by
  intro sz
  refine g_ent (cc := cX5_insertAt) (maxL := 5) (ret := none) (by decide) rfl hI (Nat.le_of_ble_eq_true rfl) ?_
  intro pgm env s₀ m₀ bel mth cod hX hW hS hsz ls hl
  subst hsz
  have hC := hX.1
  have hx := hC.1
  have hb := hC.2.1
  have hts := hC.2.2.2.1
  have hl : lv_has ls 5 [(0, .ref (ad 6 r)), (1, .int (zi place)), (2, .int (zi k)), (3, .int (zi n))] := hl
  have hin_X5 : ∀ w ∈ wsX50, w ∈ wsX5_insertAt := by decide +kernel
  have hl_9 := hts (.fieldLink RX5 9 "KioskReel$Reel" "kinds" "[C") (by decide +kernel)
  have hl_15 := hts (.fieldLink RX5 15 "KioskReel$Reel" "numbers" "[I") (by decide +kernel)
  have hl_19 := hts (.fieldLink RX5 19 "KioskReel$Reel" "size" "I") (by decide +kernel)
  refine lv_aload_n hx hb dX5_insertAt_0 rfl (lv_at hl 0 rfl) ?_
  refine cg_Reel_size hC hW hin_X5 hl_19 (by omega) (v := σ 3 r 0) rfl dX5_insertAt_1 ?_
  refine lv_istore (lv' := [(4, .int (zi (σ 3 r 0))), (0, .ref (ad 6 r)), (1, .int (zi place)), (2, .int (zi k)), (3, .int (zi n))]) hx hb dX5_insertAt_4 hl (by decide) rfl (fun ls hl => ?_)
  have loop_6 : ∀ (fuel : Nat) (m : Int), m - place < (fuel : Int) → (place ≤ m) → (m ≤ σ 3 r 0) → ∀ (H : Heap) (locs : List Loc), WP Dg ccnt ad (cE cA ad (insP σ r m)) H → va_S (WA ccnt ad s₀.heap.size) s₀.heap H locs → ∀ ls : Array Slot, lv_has ls 5 [(4, .int (zi m)), (0, .ref (ad 6 r)), (1, .int (zi place)), (2, .int (zi k)), (3, .int (zi n))] → W pgm l env ({ frames := 0, cells := 0, slots := 0, locals := 0 } : Room) s₀ m₀ ([.ref (ad 6 r), .int (zi place), .int (zi k), .int (zi n)] : List Value).toArray bel mth cod H locs 0 0 (MQ bel (va_Qv (fun _ : Unit => True) (gB Dg ccnt ad (cE cA ad (fIns σ r place k n))) (WA ccnt ad s₀.heap.size)) ([.ref (ad 6 r), .int (zi place), .int (zi k), .int (zi n)] : List Value).toArray s₀ 0 0 (WA ccnt ad s₀.heap.size)) (F0 m₀ 6 ls []) := by
    intro fuel
    induction fuel with
    | zero => intro m hn i1 i2; exact absurd hn (by omega)
    | succ fuel ih_6 =>
      intro m hn i1 i2 H locs hW hS ls hl
      obtain ⟨σ1, hσ1⟩ : ∃ z, z = insP σ r m := ⟨_, rfl⟩
      rw [← hσ1] at hW
      refine lv_iload hx hb dX5_insertAt_6 (lv_at hl 0 rfl) ?_
      refine lv_iload_n hx hb dX5_insertAt_8 rfl (lv_at hl 2 rfl) ?_
      refine k_icmp_le (tgt := 50) hC dX5_insertAt_9 (by decide) (by omega) (fun c1 => ?_) (fun c1 => ?_)
      · refine lv_aload_n hx hb dX5_insertAt_50 rfl (lv_at hl 1 rfl) ?_
        refine cg_Reel_kinds hC hW hin_X5 hl_9 (by omega) dX5_insertAt_51 ?_
        refine lv_iload_n hx hb dX5_insertAt_54 rfl (lv_at hl 2 rfl) ?_
        refine lv_iload_n hx hb dX5_insertAt_55 rfl (lv_at hl 3 rfl) ?_
        refine cs_kinds hC hW (by omega) (by omega) hS (by omega) dX5_insertAt_56 (fun H locs hW hS => ?_)
        obtain ⟨σ2, hσ2⟩ : ∃ z, z = ups σ1 1 r place k := ⟨_, rfl⟩
        rw [← hσ2] at hW
        refine lv_aload_n hx hb dX5_insertAt_57 rfl (lv_at hl 1 rfl) ?_
        refine cg_Reel_numbers hC hW hin_X5 hl_15 (by omega) dX5_insertAt_58 ?_
        refine lv_iload_n hx hb dX5_insertAt_61 rfl (lv_at hl 2 rfl) ?_
        refine lv_iload_n hx hb dX5_insertAt_62 rfl (lv_at hl 4 rfl) ?_
        refine cs_numbers hC hW (by omega) (by omega) hS dX5_insertAt_63 (fun H locs hW hS => ?_)
        obtain ⟨σ3, hσ3⟩ : ∃ z, z = ups σ2 2 r place n := ⟨_, rfl⟩
        rw [← hσ3] at hW
        refine lv_aload_n hx hb dX5_insertAt_64 rfl (lv_at hl 1 rfl) ?_
        refine lv_dup hx hb dX5_insertAt_65 rfl ?_
        refine cg_Reel_size hC hW hin_X5 hl_19 (by omega) (v := σ 3 r 0) (by rw [hσ3, ups_t _ (by decide), hσ2, ups_t _ (by decide), hσ1, insP_o _ _ _ (by decide) (by decide)]) dX5_insertAt_66 ?_
        refine k_iconst hC dX5_insertAt_69 ?_
        refine k_iadd hC dX5_insertAt_70 ?_
        refine cp_Reel_size hC hW hin_X5 hl_19 (by omega) hS dX5_insertAt_71 (fun H locs hW hS => ?_)
        obtain ⟨σ4, hσ4⟩ : ∃ z, z = ups σ3 3 r 0 ((σ 3 r 0) + 1) := ⟨_, rfl⟩
        rw [← hσ4] at hW
        have hW : WP Dg ccnt ad (cE cA ad (fIns σ r place k n)) _ := (sw hW (by rw [hσ4, hσ3, hσ2, hσ1, show m = place by omega]; rfl))
        exact k_vret hX hW hS dX5_insertAt_74
      · refine lv_aload_n hx hb dX5_insertAt_12 rfl (lv_at hl 1 rfl) ?_
        refine cg_Reel_kinds hC hW hin_X5 hl_9 (by omega) dX5_insertAt_13 ?_
        refine lv_iload hx hb dX5_insertAt_16 (lv_at hl 0 rfl) ?_
        refine lv_aload_n hx hb dX5_insertAt_18 rfl (lv_at hl 1 rfl) ?_
        refine cg_Reel_kinds hC hW hin_X5 hl_9 (by omega) dX5_insertAt_19 ?_
        refine lv_iload hx hb dX5_insertAt_22 (lv_at hl 0 rfl) ?_
        refine k_iconst hC dX5_insertAt_24 ?_
        refine k_isub hC dX5_insertAt_25 ?_
        refine ca_kinds hC hW (by omega) (by omega) (v := σ 1 r (m - 1)) (by rw [hσ1, insP_rd _ _ _ _ (by omega)]) dX5_insertAt_26 ?_
        have hk1 := hK (m - 1) (by omega) (by omega)
        refine cs_kinds hC hW (by omega) (by omega) hS (by omega) dX5_insertAt_27 (fun H locs hW hS => ?_)
        obtain ⟨σ5, hσ5⟩ : ∃ z, z = ups σ1 1 r m (σ 1 r (m - 1)) := ⟨_, rfl⟩
        rw [← hσ5] at hW
        refine lv_aload_n hx hb dX5_insertAt_28 rfl (lv_at hl 1 rfl) ?_
        refine cg_Reel_numbers hC hW hin_X5 hl_15 (by omega) dX5_insertAt_29 ?_
        refine lv_iload hx hb dX5_insertAt_32 (lv_at hl 0 rfl) ?_
        refine lv_aload_n hx hb dX5_insertAt_34 rfl (lv_at hl 1 rfl) ?_
        refine cg_Reel_numbers hC hW hin_X5 hl_15 (by omega) dX5_insertAt_35 ?_
        refine lv_iload hx hb dX5_insertAt_38 (lv_at hl 0 rfl) ?_
        refine k_iconst hC dX5_insertAt_40 ?_
        refine k_isub hC dX5_insertAt_41 ?_
        refine ca_numbers hC hW (by omega) (by omega) (v := σ 2 r (m - 1)) (by rw [hσ5, ups_t _ (by decide), hσ1, insP_rd _ _ _ _ (by omega)]) dX5_insertAt_42 ?_
        refine cs_numbers hC hW (by omega) (by omega) hS dX5_insertAt_43 (fun H locs hW hS => ?_)
        obtain ⟨σ6, hσ6⟩ : ∃ z, z = ups σ5 2 r m (σ 2 r (m - 1)) := ⟨_, rfl⟩
        rw [← hσ6] at hW
        refine k_iinc (a := m) (lv' := [(4, .int (zi (m + (-1)))), (0, .ref (ad 6 r)), (1, .int (zi place)), (2, .int (zi k)), (3, .int (zi n))]) hC dX5_insertAt_44 hl (k := 0) rfl (by decide) rfl (fun ls hl => ?_)
        refine lv_goto (tgt := 6) hx hb dX5_insertAt_47 (by decide) ?_
        have hl := Eq.mp (congrArg (fun z : Int => lv_has ls 5 [(4, .int (zi z)), (0, .ref (ad 6 r)), (1, .int (zi place)), (2, .int (zi k)), (3, .int (zi n))]) (show (m + (-1) : Int) = (m + (-1)) by omega)) hl
        exact ih_6 (m + (-1)) (by omega) (by omega) (by omega) _ _ (sw hW (by rw [hσ6, hσ5, hσ1]; exact (insP_s σ (by omega)).trans (by rw [show m - 1 = m + (-1) by omega]))) hS _ (lv_sub hl [0, 1, 2, 3, 4] rfl)
  exact loop_6 (Int.toNat ((σ 3 r 0) - place) + 1) (σ 3 r 0) (by omega) (by omega) (by omega) _ _ (sw hW (insP_0 σ r).symm) hS _ (lv_sub hl [0, 1, 2, 3, 4] rfl)
set_option maxHeartbeats 4000000 in
set_option maxRecDepth 100000 in
theorem m_removeAt {l : Launch} {Dg : va_G} {cA : Nat → ClassId} {ad : Nat → Int → Nat} {oc : Nat → Nat} (hI : WI ccnt ad) (σ : St) (r place : Int) (h1 : 0 ≤ r ∧ r < 32) (h2 : 0 ≤ place ∧ place < σ 3 r 0) (h3 : σ 3 r 0 ≤ 20) (hK : ∀ j : Int, 0 ≤ j → j < 20 → 0 ≤ σ 1 r j ∧ σ 1 r j < 65536) : GV l yX5_removeAt wsX5_removeAt ({ frames := 0, cells := 0, slots := 0, locals := 0 } : Room) Dg cA ccnt ad oc (cE cA ad σ) [.ref (ad 6 r), .int (zi place)] (cE cA ad (fRem σ r place)) := by
  intro sz
  refine g_ent (cc := cX5_removeAt) (maxL := 3) (ret := none) (by decide) rfl hI (Nat.le_of_ble_eq_true rfl) ?_
  intro pgm env s₀ m₀ bel mth cod hX hW hS hsz ls hl
  subst hsz
  have hC := hX.1
  have hx := hC.1
  have hb := hC.2.1
  have hts := hC.2.2.2.1
  have hl : lv_has ls 3 [(0, .ref (ad 6 r)), (1, .int (zi place))] := hl
  have hin_X5 : ∀ w ∈ wsX50, w ∈ wsX5_removeAt := by decide +kernel
  have hl_9 := hts (.fieldLink RX5 9 "KioskReel$Reel" "kinds" "[C") (by decide +kernel)
  have hl_15 := hts (.fieldLink RX5 15 "KioskReel$Reel" "numbers" "[I") (by decide +kernel)
  have hl_19 := hts (.fieldLink RX5 19 "KioskReel$Reel" "size" "I") (by decide +kernel)
  refine lv_aload_n hx hb dX5_removeAt_0 rfl (lv_at hl 0 rfl) ?_
  refine lv_dup hx hb dX5_removeAt_1 rfl ?_
  refine cg_Reel_size hC hW hin_X5 hl_19 (by omega) (v := σ 3 r 0) rfl dX5_removeAt_2 ?_
  refine k_iconst hC dX5_removeAt_5 ?_
  refine k_isub hC dX5_removeAt_6 ?_
  refine cp_Reel_size hC hW hin_X5 hl_19 (by omega) hS dX5_removeAt_7 (fun H locs hW hS => ?_)
  obtain ⟨σ1, hσ1⟩ : ∃ z, z = ups σ 3 r 0 ((σ 3 r 0) - 1) := ⟨_, rfl⟩
  rw [← hσ1] at hW
  refine lv_iload_n hx hb dX5_removeAt_10 rfl (lv_at hl 1 rfl) ?_
  refine lv_istore_n (lv' := [(2, .int (zi place)), (0, .ref (ad 6 r)), (1, .int (zi place))]) hx hb dX5_removeAt_11 rfl hl (by decide) rfl (fun ls hl => ?_)
  have loop_12 : ∀ (fuel : Nat) (m : Int), σ 3 r 0 - 1 - m < (fuel : Int) → (place ≤ m) → (m ≤ σ 3 r 0 - 1) → ∀ (H : Heap) (locs : List Loc), WP Dg ccnt ad (cE cA ad (remP (ups σ 3 r 0 (σ 3 r 0 - 1)) r place m)) H → va_S (WA ccnt ad s₀.heap.size) s₀.heap H locs → ∀ ls : Array Slot, lv_has ls 3 [(2, .int (zi m)), (0, .ref (ad 6 r)), (1, .int (zi place))] → W pgm l env ({ frames := 0, cells := 0, slots := 0, locals := 0 } : Room) s₀ m₀ ([.ref (ad 6 r), .int (zi place)] : List Value).toArray bel mth cod H locs 0 0 (MQ bel (va_Qv (fun _ : Unit => True) (gB Dg ccnt ad (cE cA ad (fRem σ r place))) (WA ccnt ad s₀.heap.size)) ([.ref (ad 6 r), .int (zi place)] : List Value).toArray s₀ 0 0 (WA ccnt ad s₀.heap.size)) (F0 m₀ 12 ls []) := by
    intro fuel
    induction fuel with
    | zero => intro m hn i1 i2; exact absurd hn (by omega)
    | succ fuel ih_12 =>
      intro m hn i1 i2 H locs hW hS ls hl
      obtain ⟨σ2, hσ2⟩ : ∃ z, z = remP (ups σ 3 r 0 (σ 3 r 0 - 1)) r place m := ⟨_, rfl⟩
      rw [← hσ2] at hW
      refine lv_iload_n hx hb dX5_removeAt_12 rfl (lv_at hl 0 rfl) ?_
      refine lv_aload_n hx hb dX5_removeAt_13 rfl (lv_at hl 1 rfl) ?_
      refine cg_Reel_size hC hW hin_X5 hl_19 (by omega) (v := σ 3 r 0 - 1) (by rw [hσ2, remP_o _ _ _ _ (by decide) (by decide), ups_eq]) dX5_removeAt_14 ?_
      refine k_icmp_ge (tgt := 54) hC dX5_removeAt_17 (by decide) (by omega) (fun c1 => ?_) (fun c1 => ?_)
      · have hW : WP Dg ccnt ad (cE cA ad (fRem σ r place)) _ := (sw hW (by rw [hσ2, show m = σ 3 r 0 - 1 by omega]; rfl))
        exact k_vret hX hW hS dX5_removeAt_54
      · refine lv_aload_n hx hb dX5_removeAt_20 rfl (lv_at hl 1 rfl) ?_
        refine cg_Reel_kinds hC hW hin_X5 hl_9 (by omega) dX5_removeAt_21 ?_
        refine lv_iload_n hx hb dX5_removeAt_24 rfl (lv_at hl 0 rfl) ?_
        refine lv_aload_n hx hb dX5_removeAt_25 rfl (lv_at hl 1 rfl) ?_
        refine cg_Reel_kinds hC hW hin_X5 hl_9 (by omega) dX5_removeAt_26 ?_
        refine lv_iload_n hx hb dX5_removeAt_29 rfl (lv_at hl 0 rfl) ?_
        refine k_iconst hC dX5_removeAt_30 ?_
        refine k_iadd hC dX5_removeAt_31 ?_
        refine ca_kinds hC hW (by omega) (by omega) (v := σ 1 r (m + 1)) (by rw [hσ2, remP_rd _ _ _ _ (by omega), ups_t _ (by decide)]) dX5_removeAt_32 ?_
        have hk1 := hK (m + 1) (by omega) (by omega)
        refine cs_kinds hC hW (by omega) (by omega) hS (by omega) dX5_removeAt_33 (fun H locs hW hS => ?_)
        obtain ⟨σ3, hσ3⟩ : ∃ z, z = ups σ2 1 r m (σ 1 r (m + 1)) := ⟨_, rfl⟩
        rw [← hσ3] at hW
        refine lv_aload_n hx hb dX5_removeAt_34 rfl (lv_at hl 1 rfl) ?_
        refine cg_Reel_numbers hC hW hin_X5 hl_15 (by omega) dX5_removeAt_35 ?_
        refine lv_iload_n hx hb dX5_removeAt_38 rfl (lv_at hl 0 rfl) ?_
        refine lv_aload_n hx hb dX5_removeAt_39 rfl (lv_at hl 1 rfl) ?_
        refine cg_Reel_numbers hC hW hin_X5 hl_15 (by omega) dX5_removeAt_40 ?_
        refine lv_iload_n hx hb dX5_removeAt_43 rfl (lv_at hl 0 rfl) ?_
        refine k_iconst hC dX5_removeAt_44 ?_
        refine k_iadd hC dX5_removeAt_45 ?_
        refine ca_numbers hC hW (by omega) (by omega) (v := σ 2 r (m + 1)) (by rw [hσ3, ups_t _ (by decide), hσ2, remP_rd _ _ _ _ (by omega), ups_t _ (by decide)]) dX5_removeAt_46 ?_
        refine cs_numbers hC hW (by omega) (by omega) hS dX5_removeAt_47 (fun H locs hW hS => ?_)
        obtain ⟨σ4, hσ4⟩ : ∃ z, z = ups σ3 2 r m (σ 2 r (m + 1)) := ⟨_, rfl⟩
        rw [← hσ4] at hW
        refine k_iinc (a := m) (lv' := [(2, .int (zi (m + 1))), (0, .ref (ad 6 r)), (1, .int (zi place))]) hC dX5_removeAt_48 hl (k := 0) rfl (by decide) rfl (fun ls hl => ?_)
        refine lv_goto (tgt := 12) hx hb dX5_removeAt_51 (by decide) ?_
        have hl := Eq.mp (congrArg (fun z : Int => lv_has ls 3 [(2, .int (zi z)), (0, .ref (ad 6 r)), (1, .int (zi place))]) (show (m + 1 : Int) = (m + 1) by omega)) hl
        exact ih_12 (m + 1) (by omega) (by omega) (by omega) _ _ (sw hW (by have q := remP_s (ups σ 3 r 0 (σ 3 r 0 - 1)) (r := r) (place := place) (m := m) (by omega); rw [ups_t _ (by decide), ups_t _ (by decide)] at q; rw [hσ4, hσ3, hσ2]; exact q)) hS _ (lv_sub hl [0, 1, 2] rfl)
  exact loop_12 (Int.toNat (σ 3 r 0 - 1 - place) + 1) place (by omega) (by omega) (by omega) _ _ (sw hW (by rw [hσ1]; exact (remP_0 _ r place).symm)) hS _ (lv_sub hl [0, 1, 2] rfl)
set_option maxHeartbeats 4000000 in
set_option maxRecDepth 100000 in
theorem m_linesOf {l : Launch} {Dg : va_G} {cA : Nat → ClassId} {ad : Nat → Int → Nat} {oc : Nat → Nat} (hI : WI ccnt ad) (σ : St) (r k : Int) (h1 : 0 ≤ r ∧ r < 32) (h3 : 0 ≤ σ 3 r 0 ∧ σ 3 r 0 ≤ 20) (h4 : 0 ≤ k ∧ k < 65536) (hK : ∀ j : Int, 0 ≤ j → j < 20 → 0 ≤ σ 1 r j ∧ σ 1 r j < 65536) : GI l yX5_linesOf wsX5_linesOf ({ frames := 0, cells := 0, slots := 0, locals := 0 } : Room) Dg cA ccnt ad oc (cE cA ad σ) [.ref (ad 6 r), .int (zi k)] (cN (fun j => decide (σ 1 r j = k)) (σ 3 r 0)) (cE cA ad σ) := by
  intro sz
  refine g_ent (cc := cX5_linesOf) (maxL := 4) (ret := (some .int)) (by decide) rfl hI (Nat.le_of_ble_eq_true rfl) ?_
  intro pgm env s₀ m₀ bel mth cod hX hW hS hsz ls hl
  subst hsz
  have hC := hX.1
  have hx := hC.1
  have hb := hC.2.1
  have hts := hC.2.2.2.1
  have hl : lv_has ls 4 [(0, .ref (ad 6 r)), (1, .int (zi k))] := hl
  have hin_X5 : ∀ w ∈ wsX50, w ∈ wsX5_linesOf := by decide +kernel
  have hl_9 := hts (.fieldLink RX5 9 "KioskReel$Reel" "kinds" "[C") (by decide +kernel)
  have hl_19 := hts (.fieldLink RX5 19 "KioskReel$Reel" "size" "I") (by decide +kernel)
  refine k_iconst hC dX5_linesOf_0 ?_
  refine lv_istore_n (lv' := [(2, .int (zi 0)), (0, .ref (ad 6 r)), (1, .int (zi k))]) hx hb dX5_linesOf_1 rfl hl (by decide) rfl (fun ls hl => ?_)
  refine k_iconst hC dX5_linesOf_2 ?_
  refine lv_istore_n (lv' := [(3, .int (zi 0)), (2, .int (zi 0)), (0, .ref (ad 6 r)), (1, .int (zi k))]) hx hb dX5_linesOf_3 rfl hl (by decide) rfl (fun ls hl => ?_)
  have loop_4 : ∀ (fuel : Nat) (i : Int) (f : Int), σ 3 r 0 - i < (fuel : Int) → (0 ≤ i) → (i ≤ σ 3 r 0) → (f = cN (fun j => decide (σ 1 r j = k)) i) → ∀ (H : Heap) (locs : List Loc), WP Dg ccnt ad (cE cA ad σ) H → va_S (WA ccnt ad s₀.heap.size) s₀.heap H locs → ∀ ls : Array Slot, lv_has ls 4 [(3, .int (zi i)), (2, .int (zi f)), (0, .ref (ad 6 r)), (1, .int (zi k))] → W pgm l env ({ frames := 0, cells := 0, slots := 0, locals := 0 } : Room) s₀ m₀ ([.ref (ad 6 r), .int (zi k)] : List Value).toArray bel mth cod H locs 0 0 (MQ bel (va_Qi (fun (rr : Int32) (_ : Unit) => rr = zi (cN (fun j => decide (σ 1 r j = k)) (σ 3 r 0))) (gB Dg ccnt ad (cE cA ad σ)) (WA ccnt ad s₀.heap.size)) ([.ref (ad 6 r), .int (zi k)] : List Value).toArray s₀ 0 0 (WA ccnt ad s₀.heap.size)) (F0 m₀ 4 ls []) := by
    intro fuel
    induction fuel with
    | zero => intro i f hn i1 i2 i3; exact absurd hn (by omega)
    | succ fuel ih_4 =>
      intro i f hn i1 i2 i3 H locs hW hS ls hl
      refine lv_iload_n hx hb dX5_linesOf_4 rfl (lv_at hl 0 rfl) ?_
      refine lv_aload_n hx hb dX5_linesOf_5 rfl (lv_at hl 2 rfl) ?_
      refine cg_Reel_size hC hW hin_X5 hl_19 (by omega) (v := σ 3 r 0) rfl dX5_linesOf_6 ?_
      refine k_icmp_ge (tgt := 31) hC dX5_linesOf_9 (by decide) (by omega) (fun c1 => ?_) (fun c1 => ?_)
      · refine lv_iload_n hx hb dX5_linesOf_31 rfl (lv_at hl 1 rfl) ?_
        exact k_iret hX (by rw [i3, show i = σ 3 r 0 by omega]) hW hS dX5_linesOf_32
      · refine lv_aload_n hx hb dX5_linesOf_12 rfl (lv_at hl 2 rfl) ?_
        refine cg_Reel_kinds hC hW hin_X5 hl_9 (by omega) dX5_linesOf_13 ?_
        refine lv_iload_n hx hb dX5_linesOf_16 rfl (lv_at hl 0 rfl) ?_
        refine ca_kinds hC hW (by omega) (by omega) (v := σ 1 r i) rfl dX5_linesOf_17 ?_
        refine lv_iload_n hx hb dX5_linesOf_18 rfl (lv_at hl 3 rfl) ?_
        have hk1 := hK i (by omega) (by omega)
        refine k_icmp_ne (tgt := 25) hC dX5_linesOf_19 (by decide) (by omega) (fun c2 => ?_) (fun c2 => ?_)
        · refine k_iinc (a := i) (lv' := [(3, .int (zi (i + 1))), (2, .int (zi f)), (0, .ref (ad 6 r)), (1, .int (zi k))]) hC dX5_linesOf_25 hl (k := 0) rfl (by decide) rfl (fun ls hl => ?_)
          refine lv_goto (tgt := 4) hx hb dX5_linesOf_28 (by decide) ?_
          have hl := Eq.mp (congrArg (fun z : Int => lv_has ls 4 [(3, .int (zi z)), (2, .int (zi f)), (0, .ref (ad 6 r)), (1, .int (zi k))]) (show (i + 1 : Int) = (i + 1) by omega)) hl
          exact ih_4 (i + 1) f (by omega) (by omega) (by omega) (by first | rw [cN_t _ (by omega) (decide_eq_true (by omega)), i3] | rw [cN_f _ (by omega) (decide_eq_false (by omega)), i3]) _ _ hW hS _ (lv_sub hl [0, 1, 2, 3] rfl)
        · refine k_iinc (a := f) (lv' := [(2, .int (zi (f + 1))), (3, .int (zi i)), (0, .ref (ad 6 r)), (1, .int (zi k))]) hC dX5_linesOf_22 hl (k := 1) rfl (by decide) rfl (fun ls hl => ?_)
          refine k_iinc (a := i) (lv' := [(3, .int (zi (i + 1))), (2, .int (zi (f + 1))), (0, .ref (ad 6 r)), (1, .int (zi k))]) hC dX5_linesOf_25 hl (k := 1) rfl (by decide) rfl (fun ls hl => ?_)
          refine lv_goto (tgt := 4) hx hb dX5_linesOf_28 (by decide) ?_
          have hl := Eq.mp (congrArg (fun z : Int => lv_has ls 4 [(3, .int (zi z)), (2, .int (zi (f + 1))), (0, .ref (ad 6 r)), (1, .int (zi k))]) (show (i + 1 : Int) = (i + 1) by omega)) hl
          have hl := Eq.mp (congrArg (fun z : Int => lv_has ls 4 [(3, .int (zi (i + 1))), (2, .int (zi z)), (0, .ref (ad 6 r)), (1, .int (zi k))]) (show (f + 1 : Int) = (f + 1) by omega)) hl
          exact ih_4 (i + 1) (f + 1) (by omega) (by omega) (by omega) (by first | rw [cN_t _ (by omega) (decide_eq_true (by omega)), i3] | rw [cN_f _ (by omega) (decide_eq_false (by omega)), i3]) _ _ hW hS _ (lv_sub hl [0, 1, 2, 3] rfl)
  exact loop_4 (Int.toNat (σ 3 r 0 - 0) + 1) 0 0 (by omega) (by omega) (by omega) rfl _ _ hW hS _ (lv_sub hl [0, 1, 2, 3] rfl)
set_option maxHeartbeats 4000000 in
set_option maxRecDepth 100000 in
theorem m_copyFrom {l : Launch} {Dg : va_G} {cA : Nat → ClassId} {ad : Nat → Int → Nat} {oc : Nat → Nat} (hI : WI ccnt ad) (σ : St) (r q : Int) (h1 : 0 ≤ r ∧ r < 32) (h2 : 0 ≤ q ∧ q < 32) (hq : q ≠ r) (h3 : 0 ≤ σ 3 q 0 ∧ σ 3 q 0 ≤ 20) (hK : ∀ j : Int, 0 ≤ j → j < 20 → 0 ≤ σ 1 q j ∧ σ 1 q j < 65536) : GV l yX5_copyFrom wsX5_copyFrom ({ frames := 0, cells := 0, slots := 0, locals := 0 } : Room) Dg cA ccnt ad oc (cE cA ad σ) [.ref (ad 6 r), .ref (ad 6 q)] (cE cA ad (fCopy σ r q)) := by
  intro sz
  refine g_ent (cc := cX5_copyFrom) (maxL := 3) (ret := none) (by decide) rfl hI (Nat.le_of_ble_eq_true rfl) ?_
  intro pgm env s₀ m₀ bel mth cod hX hW hS hsz ls hl
  subst hsz
  have hC := hX.1
  have hx := hC.1
  have hb := hC.2.1
  have hts := hC.2.2.2.1
  have hl : lv_has ls 3 [(0, .ref (ad 6 r)), (1, .ref (ad 6 q))] := hl
  have hin_X5 : ∀ w ∈ wsX50, w ∈ wsX5_copyFrom := by decide +kernel
  have hl_9 := hts (.fieldLink RX5 9 "KioskReel$Reel" "kinds" "[C") (by decide +kernel)
  have hl_15 := hts (.fieldLink RX5 15 "KioskReel$Reel" "numbers" "[I") (by decide +kernel)
  have hl_19 := hts (.fieldLink RX5 19 "KioskReel$Reel" "size" "I") (by decide +kernel)
  refine lv_aload_n hx hb dX5_copyFrom_0 rfl (lv_at hl 0 rfl) ?_
  refine lv_aload_n hx hb dX5_copyFrom_1 rfl (lv_at hl 1 rfl) ?_
  refine cg_Reel_size hC hW hin_X5 hl_19 (by omega) (v := σ 3 q 0) rfl dX5_copyFrom_2 ?_
  refine cp_Reel_size hC hW hin_X5 hl_19 (by omega) hS dX5_copyFrom_5 (fun H locs hW hS => ?_)
  obtain ⟨σ1, hσ1⟩ : ∃ z, z = ups σ 3 r 0 (σ 3 q 0) := ⟨_, rfl⟩
  rw [← hσ1] at hW
  refine k_iconst hC dX5_copyFrom_8 ?_
  refine lv_istore_n (lv' := [(2, .int (zi 0)), (0, .ref (ad 6 r)), (1, .ref (ad 6 q))]) hx hb dX5_copyFrom_9 rfl hl (by decide) rfl (fun ls hl => ?_)
  have loop_10 : ∀ (fuel : Nat) (m : Int), σ 3 q 0 - m < (fuel : Int) → (0 ≤ m) → (m ≤ σ 3 q 0) → ∀ (H : Heap) (locs : List Loc), WP Dg ccnt ad (cE cA ad (cpP (ups σ 3 r 0 (σ 3 q 0)) r q m)) H → va_S (WA ccnt ad s₀.heap.size) s₀.heap H locs → ∀ ls : Array Slot, lv_has ls 3 [(2, .int (zi m)), (0, .ref (ad 6 r)), (1, .ref (ad 6 q))] → W pgm l env ({ frames := 0, cells := 0, slots := 0, locals := 0 } : Room) s₀ m₀ ([.ref (ad 6 r), .ref (ad 6 q)] : List Value).toArray bel mth cod H locs 0 0 (MQ bel (va_Qv (fun _ : Unit => True) (gB Dg ccnt ad (cE cA ad (fCopy σ r q))) (WA ccnt ad s₀.heap.size)) ([.ref (ad 6 r), .ref (ad 6 q)] : List Value).toArray s₀ 0 0 (WA ccnt ad s₀.heap.size)) (F0 m₀ 10 ls []) := by
    intro fuel
    induction fuel with
    | zero => intro m hn i1 i2; exact absurd hn (by omega)
    | succ fuel ih_10 =>
      intro m hn i1 i2 H locs hW hS ls hl
      obtain ⟨σ2, hσ2⟩ : ∃ z, z = cpP (ups σ 3 r 0 (σ 3 q 0)) r q m := ⟨_, rfl⟩
      rw [← hσ2] at hW
      refine lv_iload_n hx hb dX5_copyFrom_10 rfl (lv_at hl 0 rfl) ?_
      refine lv_aload_n hx hb dX5_copyFrom_11 rfl (lv_at hl 1 rfl) ?_
      refine cg_Reel_size hC hW hin_X5 hl_19 (by omega) (v := σ 3 q 0) (by rw [hσ2, cpP_o _ _ _ _ (by decide) (by decide), ups_eq]) dX5_copyFrom_12 ?_
      refine k_icmp_ge (tgt := 48) hC dX5_copyFrom_15 (by decide) (by omega) (fun c1 => ?_) (fun c1 => ?_)
      · have hW : WP Dg ccnt ad (cE cA ad (fCopy σ r q)) _ := (sw hW (by rw [hσ2, show m = σ 3 q 0 by omega]; rfl))
        exact k_vret hX hW hS dX5_copyFrom_48
      · refine lv_aload_n hx hb dX5_copyFrom_18 rfl (lv_at hl 1 rfl) ?_
        refine cg_Reel_kinds hC hW hin_X5 hl_9 (by omega) dX5_copyFrom_19 ?_
        refine lv_iload_n hx hb dX5_copyFrom_22 rfl (lv_at hl 0 rfl) ?_
        refine lv_aload_n hx hb dX5_copyFrom_23 rfl (lv_at hl 2 rfl) ?_
        refine cg_Reel_kinds hC hW hin_X5 hl_9 (by omega) dX5_copyFrom_24 ?_
        refine lv_iload_n hx hb dX5_copyFrom_27 rfl (lv_at hl 0 rfl) ?_
        refine ca_kinds hC hW (by omega) (by omega) (v := σ 1 q m) (by rw [hσ2, cpP_rd _ _ _ _ hq, ups_t _ (by decide)]) dX5_copyFrom_28 ?_
        have hk1 := hK m (by omega) (by omega)
        refine cs_kinds hC hW (by omega) (by omega) hS (by omega) dX5_copyFrom_29 (fun H locs hW hS => ?_)
        obtain ⟨σ3, hσ3⟩ : ∃ z, z = ups σ2 1 r m (σ 1 q m) := ⟨_, rfl⟩
        rw [← hσ3] at hW
        refine lv_aload_n hx hb dX5_copyFrom_30 rfl (lv_at hl 1 rfl) ?_
        refine cg_Reel_numbers hC hW hin_X5 hl_15 (by omega) dX5_copyFrom_31 ?_
        refine lv_iload_n hx hb dX5_copyFrom_34 rfl (lv_at hl 0 rfl) ?_
        refine lv_aload_n hx hb dX5_copyFrom_35 rfl (lv_at hl 2 rfl) ?_
        refine cg_Reel_numbers hC hW hin_X5 hl_15 (by omega) dX5_copyFrom_36 ?_
        refine lv_iload_n hx hb dX5_copyFrom_39 rfl (lv_at hl 0 rfl) ?_
        refine ca_numbers hC hW (by omega) (by omega) (v := σ 2 q m) (by rw [hσ3, ups_t _ (by decide), hσ2, cpP_rd _ _ _ _ hq, ups_t _ (by decide)]) dX5_copyFrom_40 ?_
        refine cs_numbers hC hW (by omega) (by omega) hS dX5_copyFrom_41 (fun H locs hW hS => ?_)
        obtain ⟨σ4, hσ4⟩ : ∃ z, z = ups σ3 2 r m (σ 2 q m) := ⟨_, rfl⟩
        rw [← hσ4] at hW
        refine k_iinc (a := m) (lv' := [(2, .int (zi (m + 1))), (0, .ref (ad 6 r)), (1, .ref (ad 6 q))]) hC dX5_copyFrom_42 hl (k := 0) rfl (by decide) rfl (fun ls hl => ?_)
        refine lv_goto (tgt := 10) hx hb dX5_copyFrom_45 (by decide) ?_
        have hl := Eq.mp (congrArg (fun z : Int => lv_has ls 3 [(2, .int (zi z)), (0, .ref (ad 6 r)), (1, .ref (ad 6 q))]) (show (m + 1 : Int) = (m + 1) by omega)) hl
        exact ih_10 (m + 1) (by omega) (by omega) (by omega) _ _ (sw hW (by have w := cpP_s (ups σ 3 r 0 (σ 3 q 0)) (r := r) (q := q) (m := m) (by omega); rw [ups_t _ (by decide), ups_t _ (by decide)] at w; rw [hσ4, hσ3, hσ2]; exact w)) hS _ (lv_sub hl [0, 1, 2] rfl)
  exact loop_10 (Int.toNat (σ 3 q 0 - 0) + 1) 0 (by omega) (by omega) (by omega) _ _ (sw hW (by rw [hσ1]; exact (cpP_0 _ r q).symm)) hS _ (lv_sub hl [0, 1, 2] rfl)
set_option maxHeartbeats 4000000 in
set_option maxRecDepth 100000 in
theorem m_addLast {l : Launch} {Dg : va_G} {cA : Nat → ClassId} {ad : Nat → Int → Nat} {oc : Nat → Nat} (hI : WI ccnt ad) (σ : St) (w p : Int) (h1 : 0 ≤ w ∧ w < 12) (h2 : 0 ≤ σ 17 w 0 ∧ σ 17 w 0 < 6) : GV l yX4_addLast wsX4_addLast ({ frames := 0, cells := 0, slots := 0, locals := 0 } : Room) Dg cA ccnt ad oc (cE cA ad σ) [.ref (ad 18 w), .int (zi p)] (cE cA ad (aLast σ w p)) := by
  intro sz
  refine g_ent (cc := cX4_addLast) (maxL := 2) (ret := none) (by decide) rfl hI (Nat.le_of_ble_eq_true rfl) ?_
  intro pgm env s₀ m₀ bel mth cod hX hW hS hsz ls hl
  subst hsz
  have hC := hX.1
  have hx := hC.1
  have hb := hC.2.1
  have hts := hC.2.2.2.1
  have hl : lv_has ls 2 [(0, .ref (ad 18 w)), (1, .int (zi p))] := hl
  have hin_X4 : ∀ w ∈ wsX40, w ∈ wsX4_addLast := by decide +kernel
  have hl_9 := hts (.fieldLink RX4 9 "KioskReel$PlayerRow" "members" "[I") (by decide +kernel)
  have hl_15 := hts (.fieldLink RX4 15 "KioskReel$PlayerRow" "size" "I") (by decide +kernel)
  refine lv_aload_n hx hb dX4_addLast_0 rfl (lv_at hl 0 rfl) ?_
  refine cg_Row_size hC hW hin_X4 hl_15 (by omega) (v := σ 17 w 0) rfl dX4_addLast_1 ?_
  refine k_bipush hC dX4_addLast_4 (by decide) ?_
  refine k_icmp_ge (tgt := 29) hC dX4_addLast_6 (by decide) (by omega) (fun c1 => absurd c1 (by omega)) (fun c1 => ?_)
  refine lv_aload_n hx hb dX4_addLast_9 rfl (lv_at hl 0 rfl) ?_
  refine cg_Row_members hC hW hin_X4 hl_9 (by omega) dX4_addLast_10 ?_
  refine lv_aload_n hx hb dX4_addLast_13 rfl (lv_at hl 0 rfl) ?_
  refine cg_Row_size hC hW hin_X4 hl_15 (by omega) (v := σ 17 w 0) rfl dX4_addLast_14 ?_
  refine lv_iload_n hx hb dX4_addLast_17 rfl (lv_at hl 1 rfl) ?_
  refine cs_members hC hW (by omega) (by omega) hS dX4_addLast_18 (fun H locs hW hS => ?_)
  obtain ⟨σ1, hσ1⟩ : ∃ z, z = ups σ 16 w (σ 17 w 0) p := ⟨_, rfl⟩
  rw [← hσ1] at hW
  refine lv_aload_n hx hb dX4_addLast_19 rfl (lv_at hl 0 rfl) ?_
  refine lv_dup hx hb dX4_addLast_20 rfl ?_
  refine cg_Row_size hC hW hin_X4 hl_15 (by omega) (v := σ 17 w 0) (by rw [hσ1, ups_t _ (by decide)]) dX4_addLast_21 ?_
  refine k_iconst hC dX4_addLast_24 ?_
  refine k_iadd hC dX4_addLast_25 ?_
  refine cp_Row_size hC hW hin_X4 hl_15 (by omega) hS dX4_addLast_26 (fun H locs hW hS => ?_)
  obtain ⟨σ2, hσ2⟩ : ∃ z, z = ups σ1 17 w 0 ((σ 17 w 0) + 1) := ⟨_, rfl⟩
  rw [← hσ2] at hW
  have hW : WP Dg ccnt ad (cE cA ad (aLast σ w p)) _ := (sw hW (by rw [hσ2, hσ1]; rfl))
  exact k_vret hX hW hS dX4_addLast_29
set_option maxHeartbeats 4000000 in
set_option maxRecDepth 100000 in
theorem m_addFirst {l : Launch} {Dg : va_G} {cA : Nat → ClassId} {ad : Nat → Int → Nat} {oc : Nat → Nat} (hI : WI ccnt ad) (σ : St) (w p : Int) (h1 : 0 ≤ w ∧ w < 12) (h2 : 0 ≤ σ 17 w 0 ∧ σ 17 w 0 < 6) : GV l yX4_addFirst wsX4_addFirst ({ frames := 0, cells := 0, slots := 0, locals := 0 } : Room) Dg cA ccnt ad oc (cE cA ad σ) [.ref (ad 18 w), .int (zi p)] (cE cA ad (aFirst σ w p)) := by
  intro sz
  refine g_ent (cc := cX4_addFirst) (maxL := 3) (ret := none) (by decide) rfl hI (Nat.le_of_ble_eq_true rfl) ?_
  intro pgm env s₀ m₀ bel mth cod hX hW hS hsz ls hl
  subst hsz
  have hC := hX.1
  have hx := hC.1
  have hb := hC.2.1
  have hts := hC.2.2.2.1
  have hl : lv_has ls 3 [(0, .ref (ad 18 w)), (1, .int (zi p))] := hl
  have hin_X4 : ∀ w ∈ wsX40, w ∈ wsX4_addFirst := by decide +kernel
  have hl_9 := hts (.fieldLink RX4 9 "KioskReel$PlayerRow" "members" "[I") (by decide +kernel)
  have hl_15 := hts (.fieldLink RX4 15 "KioskReel$PlayerRow" "size" "I") (by decide +kernel)
  refine lv_aload_n hx hb dX4_addFirst_0 rfl (lv_at hl 0 rfl) ?_
  refine cg_Row_size hC hW hin_X4 hl_15 (by omega) (v := σ 17 w 0) rfl dX4_addFirst_1 ?_
  refine k_bipush hC dX4_addFirst_4 (by decide) ?_
  refine k_icmp_ge (tgt := 55) hC dX4_addFirst_6 (by decide) (by omega) (fun c1 => absurd c1 (by omega)) (fun c1 => ?_)
  refine lv_aload_n hx hb dX4_addFirst_9 rfl (lv_at hl 0 rfl) ?_
  refine cg_Row_size hC hW hin_X4 hl_15 (by omega) (v := σ 17 w 0) rfl dX4_addFirst_10 ?_
  refine lv_istore_n (lv' := [(2, .int (zi (σ 17 w 0))), (0, .ref (ad 18 w)), (1, .int (zi p))]) hx hb dX4_addFirst_13 rfl hl (by decide) rfl (fun ls hl => ?_)
  have loop_14 : ∀ (fuel : Nat) (m : Int), m < (fuel : Int) → (0 ≤ m) → (m ≤ σ 17 w 0) → ∀ (H : Heap) (locs : List Loc), WP Dg ccnt ad (cE cA ad (shR σ w m)) H → va_S (WA ccnt ad s₀.heap.size) s₀.heap H locs → ∀ ls : Array Slot, lv_has ls 3 [(2, .int (zi m)), (0, .ref (ad 18 w)), (1, .int (zi p))] → W pgm l env ({ frames := 0, cells := 0, slots := 0, locals := 0 } : Room) s₀ m₀ ([.ref (ad 18 w), .int (zi p)] : List Value).toArray bel mth cod H locs 0 0 (MQ bel (va_Qv (fun _ : Unit => True) (gB Dg ccnt ad (cE cA ad (aFirst σ w p))) (WA ccnt ad s₀.heap.size)) ([.ref (ad 18 w), .int (zi p)] : List Value).toArray s₀ 0 0 (WA ccnt ad s₀.heap.size)) (F0 m₀ 14 ls []) := by
    intro fuel
    induction fuel with
    | zero => intro m hn i1 i2; exact absurd hn (by omega)
    | succ fuel ih_14 =>
      intro m hn i1 i2 H locs hW hS ls hl
      obtain ⟨σ1, hσ1⟩ : ∃ z, z = shR σ w m := ⟨_, rfl⟩
      rw [← hσ1] at hW
      refine lv_iload_n hx hb dX4_addFirst_14 rfl (lv_at hl 0 rfl) ?_
      refine k_if_le (tgt := 38) hC dX4_addFirst_15 (by decide) (by omega) (fun c2 => ?_) (fun c2 => ?_)
      · refine lv_aload_n hx hb dX4_addFirst_38 rfl (lv_at hl 1 rfl) ?_
        refine cg_Row_members hC hW hin_X4 hl_9 (by omega) dX4_addFirst_39 ?_
        refine k_iconst hC dX4_addFirst_42 ?_
        refine lv_iload_n hx hb dX4_addFirst_43 rfl (lv_at hl 2 rfl) ?_
        refine cs_members hC hW (by omega) (by omega) hS dX4_addFirst_44 (fun H locs hW hS => ?_)
        obtain ⟨σ2, hσ2⟩ : ∃ z, z = ups σ1 16 w 0 p := ⟨_, rfl⟩
        rw [← hσ2] at hW
        refine lv_aload_n hx hb dX4_addFirst_45 rfl (lv_at hl 1 rfl) ?_
        refine lv_dup hx hb dX4_addFirst_46 rfl ?_
        refine cg_Row_size hC hW hin_X4 hl_15 (by omega) (v := σ 17 w 0) (by rw [hσ2, ups_t _ (by decide), hσ1, shR_o _ _ _ (by decide)]) dX4_addFirst_47 ?_
        refine k_iconst hC dX4_addFirst_50 ?_
        refine k_iadd hC dX4_addFirst_51 ?_
        refine cp_Row_size hC hW hin_X4 hl_15 (by omega) hS dX4_addFirst_52 (fun H locs hW hS => ?_)
        obtain ⟨σ3, hσ3⟩ : ∃ z, z = ups σ2 17 w 0 ((σ 17 w 0) + 1) := ⟨_, rfl⟩
        rw [← hσ3] at hW
        have hW : WP Dg ccnt ad (cE cA ad (aFirst σ w p)) _ := (sw hW (by rw [hσ3, hσ2, hσ1, show m = 0 by omega]; rfl))
        exact k_vret hX hW hS dX4_addFirst_55
      · refine lv_aload_n hx hb dX4_addFirst_18 rfl (lv_at hl 1 rfl) ?_
        refine cg_Row_members hC hW hin_X4 hl_9 (by omega) dX4_addFirst_19 ?_
        refine lv_iload_n hx hb dX4_addFirst_22 rfl (lv_at hl 0 rfl) ?_
        refine lv_aload_n hx hb dX4_addFirst_23 rfl (lv_at hl 1 rfl) ?_
        refine cg_Row_members hC hW hin_X4 hl_9 (by omega) dX4_addFirst_24 ?_
        refine lv_iload_n hx hb dX4_addFirst_27 rfl (lv_at hl 0 rfl) ?_
        refine k_iconst hC dX4_addFirst_28 ?_
        refine k_isub hC dX4_addFirst_29 ?_
        refine ca_members hC hW (by omega) (by omega) (v := σ 16 w (m - 1)) (by rw [hσ1, shR_rd _ _ _ (by omega)]) dX4_addFirst_30 ?_
        refine cs_members hC hW (by omega) (by omega) hS dX4_addFirst_31 (fun H locs hW hS => ?_)
        obtain ⟨σ4, hσ4⟩ : ∃ z, z = ups σ1 16 w m (σ 16 w (m - 1)) := ⟨_, rfl⟩
        rw [← hσ4] at hW
        refine k_iinc (a := m) (lv' := [(2, .int (zi (m + (-1)))), (0, .ref (ad 18 w)), (1, .int (zi p))]) hC dX4_addFirst_32 hl (k := 0) rfl (by decide) rfl (fun ls hl => ?_)
        refine lv_goto (tgt := 14) hx hb dX4_addFirst_35 (by decide) ?_
        have hl := Eq.mp (congrArg (fun z : Int => lv_has ls 3 [(2, .int (zi z)), (0, .ref (ad 18 w)), (1, .int (zi p))]) (show (m + (-1) : Int) = (m + (-1)) by omega)) hl
        exact ih_14 (m + (-1)) (by omega) (by omega) (by omega) _ _ (sw hW (by rw [hσ4, hσ1]; exact (shR_s σ (by omega)).trans (by rw [show m - 1 = m + (-1) by omega]))) hS _ (lv_sub hl [0, 1, 2] rfl)
  exact loop_14 (Int.toNat ((σ 17 w 0)) + 1) (σ 17 w 0) (by omega) (by omega) (by omega) _ _ (sw hW (shR_0 σ w).symm) hS _ (lv_sub hl [0, 1, 2] rfl)
set_option maxHeartbeats 4000000 in
set_option maxRecDepth 100000 in
theorem m_remove {l : Launch} {Dg : va_G} {cA : Nat → ClassId} {ad : Nat → Int → Nat} {oc : Nat → Nat} (hI : WI ccnt ad) (σ : St) (w p j0 : Int) (h1 : 0 ≤ w ∧ w < 12) (h2 : 0 ≤ σ 17 w 0 ∧ σ 17 w 0 ≤ 6) (h3 : 0 ≤ p ∧ p ≤ 5) (hM : ∀ j : Int, 0 ≤ j → j < 6 → 0 ≤ σ 16 w j ∧ σ 16 w j ≤ 5) (hj : 0 ≤ j0 ∧ j0 < σ 17 w 0) (hj1 : σ 16 w j0 = p) (hj2 : ∀ j : Int, 0 ≤ j → j < σ 17 w 0 → σ 16 w j = p → j = j0) : GV l yX4_remove wsX4_remove ({ frames := 0, cells := 0, slots := 0, locals := 0 } : Room) Dg cA ccnt ad oc (cE cA ad σ) [.ref (ad 18 w), .int (zi p)] (cE cA ad (rAt σ w j0)) := by
  intro sz
  refine g_ent (cc := cX4_remove) (maxL := 4) (ret := none) (by decide) rfl hI (Nat.le_of_ble_eq_true rfl) ?_
  intro pgm env s₀ m₀ bel mth cod hX hW hS hsz ls hl
  subst hsz
  have hC := hX.1
  have hx := hC.1
  have hb := hC.2.1
  have hts := hC.2.2.2.1
  have hl : lv_has ls 4 [(0, .ref (ad 18 w)), (1, .int (zi p))] := hl
  have hin_X4 : ∀ w ∈ wsX40, w ∈ wsX4_remove := by decide +kernel
  have hl_9 := hts (.fieldLink RX4 9 "KioskReel$PlayerRow" "members" "[I") (by decide +kernel)
  have hl_15 := hts (.fieldLink RX4 15 "KioskReel$PlayerRow" "size" "I") (by decide +kernel)
  refine k_iconst hC dX4_remove_0 ?_
  refine lv_istore_n (lv' := [(2, .int (zi 0)), (0, .ref (ad 18 w)), (1, .int (zi p))]) hx hb dX4_remove_1 rfl hl (by decide) rfl (fun ls hl => ?_)
  refine k_iconst hC dX4_remove_2 ?_
  refine lv_istore_n (lv' := [(3, .int (zi 0)), (2, .int (zi 0)), (0, .ref (ad 18 w)), (1, .int (zi p))]) hx hb dX4_remove_3 rfl hl (by decide) rfl (fun ls hl => ?_)
  have loop_4 : ∀ (fuel : Nat) (i : Int) (k : Int), σ 17 w 0 - i < (fuel : Int) → (0 ≤ i) → (i ≤ σ 17 w 0) → ((i ≤ j0 ∧ k = i) ∨ (j0 < i ∧ k = i - 1)) → ∀ (H : Heap) (locs : List Loc), WP Dg ccnt ad (cE cA ad (shL σ w j0 (i - 1))) H → va_S (WA ccnt ad s₀.heap.size) s₀.heap H locs → ∀ ls : Array Slot, lv_has ls 4 [(3, .int (zi i)), (2, .int (zi k)), (0, .ref (ad 18 w)), (1, .int (zi p))] → W pgm l env ({ frames := 0, cells := 0, slots := 0, locals := 0 } : Room) s₀ m₀ ([.ref (ad 18 w), .int (zi p)] : List Value).toArray bel mth cod H locs 0 0 (MQ bel (va_Qv (fun _ : Unit => True) (gB Dg ccnt ad (cE cA ad (rAt σ w j0))) (WA ccnt ad s₀.heap.size)) ([.ref (ad 18 w), .int (zi p)] : List Value).toArray s₀ 0 0 (WA ccnt ad s₀.heap.size)) (F0 m₀ 4 ls []) := by
    intro fuel
    induction fuel with
    | zero => intro i k hn i1 i2 i3; exact absurd hn (by omega)
    | succ fuel ih_4 =>
      intro i k hn i1 i2 i3 H locs hW hS ls hl
      obtain ⟨σ1, hσ1⟩ : ∃ z, z = shL σ w j0 (i - 1) := ⟨_, rfl⟩
      rw [← hσ1] at hW
      refine lv_iload_n hx hb dX4_remove_4 rfl (lv_at hl 0 rfl) ?_
      refine lv_aload_n hx hb dX4_remove_5 rfl (lv_at hl 2 rfl) ?_
      refine cg_Row_size hC hW hin_X4 hl_15 (by omega) (v := σ 17 w 0) (by rw [hσ1, shL_o _ _ _ _ (by decide)]) dX4_remove_6 ?_
      refine k_icmp_ge (tgt := 43) hC dX4_remove_9 (by decide) (by omega) (fun c1 => ?_) (fun c1 => ?_)
      · refine lv_aload_n hx hb dX4_remove_43 rfl (lv_at hl 2 rfl) ?_
        refine lv_iload_n hx hb dX4_remove_44 rfl (lv_at hl 1 rfl) ?_
        refine cp_Row_size hC hW hin_X4 hl_15 (by omega) hS dX4_remove_45 (fun H locs hW hS => ?_)
        obtain ⟨σ2, hσ2⟩ : ∃ z, z = ups σ1 17 w 0 k := ⟨_, rfl⟩
        rw [← hσ2] at hW
        have hW : WP Dg ccnt ad (cE cA ad (rAt σ w j0)) _ := (sw hW (by rw [hσ2, hσ1, show i = σ 17 w 0 by omega, show k = σ 17 w 0 - 1 by omega]; rfl))
        exact k_vret hX hW hS dX4_remove_48
      · refine lv_aload_n hx hb dX4_remove_12 rfl (lv_at hl 2 rfl) ?_
        refine cg_Row_members hC hW hin_X4 hl_9 (by omega) dX4_remove_13 ?_
        refine lv_iload_n hx hb dX4_remove_16 rfl (lv_at hl 0 rfl) ?_
        refine ca_members hC hW (by omega) (by omega) (v := σ 16 w i) (by rw [hσ1, shL_rd _ _ _ (by omega)]) dX4_remove_17 ?_
        refine lv_iload_n hx hb dX4_remove_18 rfl (lv_at hl 3 rfl) ?_
        have hk1 := hM i (by omega) (by omega)
        refine k_icmp_eq (tgt := 37) hC dX4_remove_19 (by decide) (by omega) (fun c2 => ?_) (fun c2 => ?_)
        · refine k_iinc (a := i) (lv' := [(3, .int (zi (i + 1))), (2, .int (zi k)), (0, .ref (ad 18 w)), (1, .int (zi p))]) hC dX4_remove_37 hl (k := 0) rfl (by decide) rfl (fun ls hl => ?_)
          refine lv_goto (tgt := 4) hx hb dX4_remove_40 (by decide) ?_
          have hl := Eq.mp (congrArg (fun z : Int => lv_has ls 4 [(3, .int (zi z)), (2, .int (zi k)), (0, .ref (ad 18 w)), (1, .int (zi p))]) (show (i + 1 : Int) = (i + 1) by omega)) hl
          exact ih_4 (i + 1) k (by omega) (by omega) (by omega) (by first | omega | (have := hj2 i (by omega) (by omega) (by omega); omega)) _ _ (sw hW (by rw [hσ1]; exact rm_skip σ w (hj2 i (by omega) (by omega) (by omega)))) hS _ (lv_sub hl [0, 1, 2, 3] rfl)
        · have hne : i ≠ j0 := by intro z; subst z; omega
          refine lv_aload_n hx hb dX4_remove_22 rfl (lv_at hl 2 rfl) ?_
          refine cg_Row_members hC hW hin_X4 hl_9 (by omega) dX4_remove_23 ?_
          refine lv_iload_n hx hb dX4_remove_26 rfl (lv_at hl 1 rfl) ?_
          refine lv_aload_n hx hb dX4_remove_27 rfl (lv_at hl 2 rfl) ?_
          refine cg_Row_members hC hW hin_X4 hl_9 (by omega) dX4_remove_28 ?_
          refine lv_iload_n hx hb dX4_remove_31 rfl (lv_at hl 0 rfl) ?_
          refine ca_members hC hW (by omega) (by omega) (v := σ 16 w i) (by rw [hσ1, shL_rd _ _ _ (by omega)]) dX4_remove_32 ?_
          refine cs_members hC hW (by omega) (by omega) hS dX4_remove_33 (fun H locs hW hS => ?_)
          obtain ⟨σ3, hσ3⟩ : ∃ z, z = ups σ1 16 w k (σ 16 w i) := ⟨_, rfl⟩
          rw [← hσ3] at hW
          refine k_iinc (a := k) (lv' := [(2, .int (zi (k + 1))), (3, .int (zi i)), (0, .ref (ad 18 w)), (1, .int (zi p))]) hC dX4_remove_34 hl (k := 1) rfl (by decide) rfl (fun ls hl => ?_)
          refine k_iinc (a := i) (lv' := [(3, .int (zi (i + 1))), (2, .int (zi (k + 1))), (0, .ref (ad 18 w)), (1, .int (zi p))]) hC dX4_remove_37 hl (k := 1) rfl (by decide) rfl (fun ls hl => ?_)
          refine lv_goto (tgt := 4) hx hb dX4_remove_40 (by decide) ?_
          have hl := Eq.mp (congrArg (fun z : Int => lv_has ls 4 [(3, .int (zi z)), (2, .int (zi (k + 1))), (0, .ref (ad 18 w)), (1, .int (zi p))]) (show (i + 1 : Int) = (i + 1) by omega)) hl
          have hl := Eq.mp (congrArg (fun z : Int => lv_has ls 4 [(3, .int (zi (i + 1))), (2, .int (zi z)), (0, .ref (ad 18 w)), (1, .int (zi p))]) (show (k + 1 : Int) = (k + 1) by omega)) hl
          exact ih_4 (i + 1) (k + 1) (by omega) (by omega) (by omega) (by first | omega | (have := hj2 i (by omega) (by omega) (by omega); omega)) _ _ (sw hW (by rw [hσ3, hσ1]; exact rm_step σ i3 hne)) hS _ (lv_sub hl [0, 1, 2, 3] rfl)
  exact loop_4 (Int.toNat (σ 17 w 0 - 0) + 1) 0 0 (by omega) (by omega) (by omega) (by omega) _ _ (sw hW (shL_0 σ w (by omega)).symm) hS _ (lv_sub hl [0, 1, 2, 3] rfl)
set_option maxHeartbeats 4000000 in
set_option maxRecDepth 100000 in
theorem m_remove_no {l : Launch} {Dg : va_G} {cA : Nat → ClassId} {ad : Nat → Int → Nat} {oc : Nat → Nat} (hI : WI ccnt ad) (σ : St) (w p : Int) (h1 : 0 ≤ w ∧ w < 12) (h2 : 0 ≤ σ 17 w 0 ∧ σ 17 w 0 ≤ 6) (h3 : 0 ≤ p ∧ p ≤ 5) (hM : ∀ j : Int, 0 ≤ j → j < 6 → 0 ≤ σ 16 w j ∧ σ 16 w j ≤ 5) (hj : ∀ j : Int, 0 ≤ j → j < σ 17 w 0 → σ 16 w j ≠ p) : GV l yX4_remove wsX4_remove ({ frames := 0, cells := 0, slots := 0, locals := 0 } : Room) Dg cA ccnt ad oc (cE cA ad σ) [.ref (ad 18 w), .int (zi p)] (cE cA ad σ) := by
  intro sz
  refine g_ent (cc := cX4_remove) (maxL := 4) (ret := none) (by decide) rfl hI (Nat.le_of_ble_eq_true rfl) ?_
  intro pgm env s₀ m₀ bel mth cod hX hW hS hsz ls hl
  subst hsz
  have hC := hX.1
  have hx := hC.1
  have hb := hC.2.1
  have hts := hC.2.2.2.1
  have hl : lv_has ls 4 [(0, .ref (ad 18 w)), (1, .int (zi p))] := hl
  have hin_X4 : ∀ w ∈ wsX40, w ∈ wsX4_remove := by decide +kernel
  have hl_9 := hts (.fieldLink RX4 9 "KioskReel$PlayerRow" "members" "[I") (by decide +kernel)
  have hl_15 := hts (.fieldLink RX4 15 "KioskReel$PlayerRow" "size" "I") (by decide +kernel)
  refine k_iconst hC dX4_remove_0 ?_
  refine lv_istore_n (lv' := [(2, .int (zi 0)), (0, .ref (ad 18 w)), (1, .int (zi p))]) hx hb dX4_remove_1 rfl hl (by decide) rfl (fun ls hl => ?_)
  refine k_iconst hC dX4_remove_2 ?_
  refine lv_istore_n (lv' := [(3, .int (zi 0)), (2, .int (zi 0)), (0, .ref (ad 18 w)), (1, .int (zi p))]) hx hb dX4_remove_3 rfl hl (by decide) rfl (fun ls hl => ?_)
  have loop_4 : ∀ (fuel : Nat) (i : Int), σ 17 w 0 - i < (fuel : Int) → (0 ≤ i) → (i ≤ σ 17 w 0) → ∀ (H : Heap) (locs : List Loc), WP Dg ccnt ad (cE cA ad σ) H → va_S (WA ccnt ad s₀.heap.size) s₀.heap H locs → ∀ ls : Array Slot, lv_has ls 4 [(3, .int (zi i)), (2, .int (zi i)), (0, .ref (ad 18 w)), (1, .int (zi p))] → W pgm l env ({ frames := 0, cells := 0, slots := 0, locals := 0 } : Room) s₀ m₀ ([.ref (ad 18 w), .int (zi p)] : List Value).toArray bel mth cod H locs 0 0 (MQ bel (va_Qv (fun _ : Unit => True) (gB Dg ccnt ad (cE cA ad σ)) (WA ccnt ad s₀.heap.size)) ([.ref (ad 18 w), .int (zi p)] : List Value).toArray s₀ 0 0 (WA ccnt ad s₀.heap.size)) (F0 m₀ 4 ls []) := by
    intro fuel
    induction fuel with
    | zero => intro i hn i1 i2; exact absurd hn (by omega)
    | succ fuel ih_4 =>
      intro i hn i1 i2 H locs hW hS ls hl
      refine lv_iload_n hx hb dX4_remove_4 rfl (lv_at hl 0 rfl) ?_
      refine lv_aload_n hx hb dX4_remove_5 rfl (lv_at hl 2 rfl) ?_
      refine cg_Row_size hC hW hin_X4 hl_15 (by omega) (v := σ 17 w 0) rfl dX4_remove_6 ?_
      refine k_icmp_ge (tgt := 43) hC dX4_remove_9 (by decide) (by omega) (fun c1 => ?_) (fun c1 => ?_)
      · refine lv_aload_n hx hb dX4_remove_43 rfl (lv_at hl 2 rfl) ?_
        refine lv_iload_n hx hb dX4_remove_44 rfl (lv_at hl 1 rfl) ?_
        refine cp_Row_size hC hW hin_X4 hl_15 (by omega) hS dX4_remove_45 (fun H locs hW hS => ?_)
        obtain ⟨σ1, hσ1⟩ : ∃ z, z = ups σ 17 w 0 i := ⟨_, rfl⟩
        rw [← hσ1] at hW
        have hW : WP Dg ccnt ad (cE cA ad σ) _ := (sw hW (by rw [hσ1]; exact ups_id _ _ _ _ (by omega)))
        exact k_vret hX hW hS dX4_remove_48
      · refine lv_aload_n hx hb dX4_remove_12 rfl (lv_at hl 2 rfl) ?_
        refine cg_Row_members hC hW hin_X4 hl_9 (by omega) dX4_remove_13 ?_
        refine lv_iload_n hx hb dX4_remove_16 rfl (lv_at hl 0 rfl) ?_
        refine ca_members hC hW (by omega) (by omega) (v := σ 16 w i) rfl dX4_remove_17 ?_
        refine lv_iload_n hx hb dX4_remove_18 rfl (lv_at hl 3 rfl) ?_
        have hk1 := hM i (by omega) (by omega)
        have hk2 := hj i (by omega) (by omega)
        refine k_icmp_eq (tgt := 37) hC dX4_remove_19 (by decide) (by omega) (fun c2 => absurd c2 (by omega)) (fun c2 => ?_)
        refine lv_aload_n hx hb dX4_remove_22 rfl (lv_at hl 2 rfl) ?_
        refine cg_Row_members hC hW hin_X4 hl_9 (by omega) dX4_remove_23 ?_
        refine lv_iload_n hx hb dX4_remove_26 rfl (lv_at hl 1 rfl) ?_
        refine lv_aload_n hx hb dX4_remove_27 rfl (lv_at hl 2 rfl) ?_
        refine cg_Row_members hC hW hin_X4 hl_9 (by omega) dX4_remove_28 ?_
        refine lv_iload_n hx hb dX4_remove_31 rfl (lv_at hl 0 rfl) ?_
        refine ca_members hC hW (by omega) (by omega) (v := σ 16 w i) rfl dX4_remove_32 ?_
        refine cs_members hC hW (by omega) (by omega) hS dX4_remove_33 (fun H locs hW hS => ?_)
        obtain ⟨σ2, hσ2⟩ : ∃ z, z = ups σ 16 w i (σ 16 w i) := ⟨_, rfl⟩
        rw [← hσ2] at hW
        refine k_iinc (a := i) (lv' := [(2, .int (zi (i + 1))), (3, .int (zi i)), (0, .ref (ad 18 w)), (1, .int (zi p))]) hC dX4_remove_34 hl (k := 1) rfl (by decide) rfl (fun ls hl => ?_)
        refine k_iinc (a := i) (lv' := [(3, .int (zi (i + 1))), (2, .int (zi (i + 1))), (0, .ref (ad 18 w)), (1, .int (zi p))]) hC dX4_remove_37 hl (k := 1) rfl (by decide) rfl (fun ls hl => ?_)
        refine lv_goto (tgt := 4) hx hb dX4_remove_40 (by decide) ?_
        have hl := Eq.mp (congrArg (fun z : Int => lv_has ls 4 [(3, .int (zi z)), (2, .int (zi (i + 1))), (0, .ref (ad 18 w)), (1, .int (zi p))]) (show (i + 1 : Int) = (i + 1) by omega)) hl
        have hl := Eq.mp (congrArg (fun z : Int => lv_has ls 4 [(3, .int (zi (i + 1))), (2, .int (zi z)), (0, .ref (ad 18 w)), (1, .int (zi p))]) (show (i + 1 : Int) = (i + 1) by omega)) hl
        exact ih_4 (i + 1) (by omega) (by omega) (by omega) _ _ (sw hW (by rw [hσ2]; exact ups_id _ _ _ _ rfl)) hS _ (lv_sub hl [0, 1, 2, 3] rfl)
  exact loop_4 (Int.toNat (σ 17 w 0 - 0) + 1) 0 (by omega) (by omega) (by omega) _ _ hW hS _ (lv_sub hl [0, 1, 2, 3] rfl)
set_option maxHeartbeats 4000000 in
set_option maxRecDepth 100000 in
theorem m_timesIn {l : Launch} {Dg : va_G} {cA : Nat → ClassId} {ad : Nat → Int → Nat} {oc : Nat → Nat} (hI : WI ccnt ad) (σ : St) (w p : Int) (h1 : 0 ≤ w ∧ w < 12) (h2 : 0 ≤ σ 17 w 0 ∧ σ 17 w 0 ≤ 6) (h3 : 0 ≤ p ∧ p ≤ 5) (hM : ∀ j : Int, 0 ≤ j → j < 6 → 0 ≤ σ 16 w j ∧ σ 16 w j ≤ 5) : GI l yX4_timesIn wsX4_timesIn ({ frames := 0, cells := 0, slots := 0, locals := 0 } : Room) Dg cA ccnt ad oc (cE cA ad σ) [.ref (ad 18 w), .int (zi p)] (cN (fun j => decide (σ 16 w j = p)) (σ 17 w 0)) (cE cA ad σ) := by
  intro sz
  refine g_ent (cc := cX4_timesIn) (maxL := 4) (ret := (some .int)) (by decide) rfl hI (Nat.le_of_ble_eq_true rfl) ?_
  intro pgm env s₀ m₀ bel mth cod hX hW hS hsz ls hl
  subst hsz
  have hC := hX.1
  have hx := hC.1
  have hb := hC.2.1
  have hts := hC.2.2.2.1
  have hl : lv_has ls 4 [(0, .ref (ad 18 w)), (1, .int (zi p))] := hl
  have hin_X4 : ∀ w ∈ wsX40, w ∈ wsX4_timesIn := by decide +kernel
  have hl_9 := hts (.fieldLink RX4 9 "KioskReel$PlayerRow" "members" "[I") (by decide +kernel)
  have hl_15 := hts (.fieldLink RX4 15 "KioskReel$PlayerRow" "size" "I") (by decide +kernel)
  refine k_iconst hC dX4_timesIn_0 ?_
  refine lv_istore_n (lv' := [(2, .int (zi 0)), (0, .ref (ad 18 w)), (1, .int (zi p))]) hx hb dX4_timesIn_1 rfl hl (by decide) rfl (fun ls hl => ?_)
  refine k_iconst hC dX4_timesIn_2 ?_
  refine lv_istore_n (lv' := [(3, .int (zi 0)), (2, .int (zi 0)), (0, .ref (ad 18 w)), (1, .int (zi p))]) hx hb dX4_timesIn_3 rfl hl (by decide) rfl (fun ls hl => ?_)
  have loop_4 : ∀ (fuel : Nat) (i : Int) (f : Int), σ 17 w 0 - i < (fuel : Int) → (0 ≤ i) → (i ≤ σ 17 w 0) → (f = cN (fun j => decide (σ 16 w j = p)) i) → ∀ (H : Heap) (locs : List Loc), WP Dg ccnt ad (cE cA ad σ) H → va_S (WA ccnt ad s₀.heap.size) s₀.heap H locs → ∀ ls : Array Slot, lv_has ls 4 [(3, .int (zi i)), (2, .int (zi f)), (0, .ref (ad 18 w)), (1, .int (zi p))] → W pgm l env ({ frames := 0, cells := 0, slots := 0, locals := 0 } : Room) s₀ m₀ ([.ref (ad 18 w), .int (zi p)] : List Value).toArray bel mth cod H locs 0 0 (MQ bel (va_Qi (fun (rr : Int32) (_ : Unit) => rr = zi (cN (fun j => decide (σ 16 w j = p)) (σ 17 w 0))) (gB Dg ccnt ad (cE cA ad σ)) (WA ccnt ad s₀.heap.size)) ([.ref (ad 18 w), .int (zi p)] : List Value).toArray s₀ 0 0 (WA ccnt ad s₀.heap.size)) (F0 m₀ 4 ls []) := by
    intro fuel
    induction fuel with
    | zero => intro i f hn i1 i2 i3; exact absurd hn (by omega)
    | succ fuel ih_4 =>
      intro i f hn i1 i2 i3 H locs hW hS ls hl
      refine lv_iload_n hx hb dX4_timesIn_4 rfl (lv_at hl 0 rfl) ?_
      refine lv_aload_n hx hb dX4_timesIn_5 rfl (lv_at hl 2 rfl) ?_
      refine cg_Row_size hC hW hin_X4 hl_15 (by omega) (v := σ 17 w 0) rfl dX4_timesIn_6 ?_
      refine k_icmp_ge (tgt := 31) hC dX4_timesIn_9 (by decide) (by omega) (fun c1 => ?_) (fun c1 => ?_)
      · refine lv_iload_n hx hb dX4_timesIn_31 rfl (lv_at hl 1 rfl) ?_
        exact k_iret hX (by rw [i3, show i = σ 17 w 0 by omega]) hW hS dX4_timesIn_32
      · refine lv_aload_n hx hb dX4_timesIn_12 rfl (lv_at hl 2 rfl) ?_
        refine cg_Row_members hC hW hin_X4 hl_9 (by omega) dX4_timesIn_13 ?_
        refine lv_iload_n hx hb dX4_timesIn_16 rfl (lv_at hl 0 rfl) ?_
        refine ca_members hC hW (by omega) (by omega) (v := σ 16 w i) rfl dX4_timesIn_17 ?_
        refine lv_iload_n hx hb dX4_timesIn_18 rfl (lv_at hl 3 rfl) ?_
        have hk1 := hM i (by omega) (by omega)
        refine k_icmp_ne (tgt := 25) hC dX4_timesIn_19 (by decide) (by omega) (fun c2 => ?_) (fun c2 => ?_)
        · refine k_iinc (a := i) (lv' := [(3, .int (zi (i + 1))), (2, .int (zi f)), (0, .ref (ad 18 w)), (1, .int (zi p))]) hC dX4_timesIn_25 hl (k := 0) rfl (by decide) rfl (fun ls hl => ?_)
          refine lv_goto (tgt := 4) hx hb dX4_timesIn_28 (by decide) ?_
          have hl := Eq.mp (congrArg (fun z : Int => lv_has ls 4 [(3, .int (zi z)), (2, .int (zi f)), (0, .ref (ad 18 w)), (1, .int (zi p))]) (show (i + 1 : Int) = (i + 1) by omega)) hl
          exact ih_4 (i + 1) f (by omega) (by omega) (by omega) (by first | rw [cN_t _ (by omega) (decide_eq_true (by omega)), i3] | rw [cN_f _ (by omega) (decide_eq_false (by omega)), i3]) _ _ hW hS _ (lv_sub hl [0, 1, 2, 3] rfl)
        · refine k_iinc (a := f) (lv' := [(2, .int (zi (f + 1))), (3, .int (zi i)), (0, .ref (ad 18 w)), (1, .int (zi p))]) hC dX4_timesIn_22 hl (k := 1) rfl (by decide) rfl (fun ls hl => ?_)
          refine k_iinc (a := i) (lv' := [(3, .int (zi (i + 1))), (2, .int (zi (f + 1))), (0, .ref (ad 18 w)), (1, .int (zi p))]) hC dX4_timesIn_25 hl (k := 1) rfl (by decide) rfl (fun ls hl => ?_)
          refine lv_goto (tgt := 4) hx hb dX4_timesIn_28 (by decide) ?_
          have hl := Eq.mp (congrArg (fun z : Int => lv_has ls 4 [(3, .int (zi z)), (2, .int (zi (f + 1))), (0, .ref (ad 18 w)), (1, .int (zi p))]) (show (i + 1 : Int) = (i + 1) by omega)) hl
          have hl := Eq.mp (congrArg (fun z : Int => lv_has ls 4 [(3, .int (zi (i + 1))), (2, .int (zi z)), (0, .ref (ad 18 w)), (1, .int (zi p))]) (show (f + 1 : Int) = (f + 1) by omega)) hl
          exact ih_4 (i + 1) (f + 1) (by omega) (by omega) (by omega) (by first | rw [cN_t _ (by omega) (decide_eq_true (by omega)), i3] | rw [cN_f _ (by omega) (decide_eq_false (by omega)), i3]) _ _ hW hS _ (lv_sub hl [0, 1, 2, 3] rfl)
  exact loop_4 (Int.toNat (σ 17 w 0 - 0) + 1) 0 0 (by omega) (by omega) (by omega) rfl _ _ hW hS _ (lv_sub hl [0, 1, 2, 3] rfl)
set_option maxHeartbeats 4000000 in
set_option maxRecDepth 100000 in
theorem m_wouldSee {l : Launch} {Dg : va_G} {cA : Nat → ClassId} {ad : Nat → Int → Nat} {oc : Nat → Nat} (hI : WI ccnt ad) (σ : St) (v n : Int) (h1 : 0 ≤ v ∧ v < 10) (h2 : 0 ≤ n ∧ n < 100) (h3 : 0 ≤ σ 19 v n ∧ σ 19 v n < 2147483648) (h4 : σ 21 v n = 0 ∨ σ 21 v n = 1) : GI l yX6_wouldSee wsX6_wouldSee ({ frames := 0, cells := 0, slots := 0, locals := 0 } : Room) Dg cA ccnt ad oc (cE cA ad σ) [.ref (ad 14 v), .int (zi n)] (if σ 19 v n = 0 ∨ σ 21 v n ≠ 0 then 1 else 0) (cE cA ad σ) := by
  intro sz
  refine g_ent (cc := cX6_wouldSee) (maxL := 2) (ret := (some .boolean)) (by decide) rfl hI (Nat.le_of_ble_eq_true rfl) ?_
  intro pgm env s₀ m₀ bel mth cod hX hW hS hsz ls hl
  subst hsz
  have hC := hX.1
  have hx := hC.1
  have hb := hC.2.1
  have hts := hC.2.2.2.1
  have hl : lv_has ls 2 [(0, .ref (ad 14 v)), (1, .int (zi n))] := hl
  have hin_X6 : ∀ w ∈ wsX60, w ∈ wsX6_wouldSee := by decide +kernel
  have hl_9 := hts (.fieldLink RX6 9 "KioskReel$Visitor" "timesSeen" "[I") (by decide +kernel)
  have hl_18 := hts (.fieldLink RX6 18 "KioskReel$Visitor" "wants" "[Z") (by decide +kernel)
  refine lv_aload_n hx hb dX6_wouldSee_0 rfl (lv_at hl 0 rfl) ?_
  refine cg_Visitor_timesSeen hC hW hin_X6 hl_9 (by omega) dX6_wouldSee_1 ?_
  refine lv_iload_n hx hb dX6_wouldSee_4 rfl (lv_at hl 1 rfl) ?_
  refine ca_seen hC hW (by omega) (by omega) (v := σ 19 v n) rfl dX6_wouldSee_5 ?_
  refine k_if_eq (tgt := 18) hC dX6_wouldSee_6 (by decide) (by omega) (fun c1 => ?_) (fun c1 => ?_)
  · refine k_iconst hC dX6_wouldSee_18 ?_
    refine lv_goto (tgt := 23) hx hb dX6_wouldSee_19 (by decide) ?_
    exact k_zret hX (by omega) (by first | rw [if_pos (by omega)] | rw [if_neg (by omega)]) hW hS dX6_wouldSee_23
  · refine lv_aload_n hx hb dX6_wouldSee_9 rfl (lv_at hl 0 rfl) ?_
    refine cg_Visitor_wants hC hW hin_X6 hl_18 (by omega) dX6_wouldSee_10 ?_
    refine lv_iload_n hx hb dX6_wouldSee_13 rfl (lv_at hl 1 rfl) ?_
    refine ca_wants hC hW (by omega) (by omega) (v := σ 21 v n) rfl dX6_wouldSee_14 ?_
    refine k_if_eq (tgt := 22) hC dX6_wouldSee_15 (by decide) (by omega) (fun c2 => ?_) (fun c2 => ?_)
    · refine k_iconst hC dX6_wouldSee_22 ?_
      exact k_zret hX (by omega) (by first | rw [if_pos (by omega)] | rw [if_neg (by omega)]) hW hS dX6_wouldSee_23
    · refine k_iconst hC dX6_wouldSee_18 ?_
      refine lv_goto (tgt := 23) hx hb dX6_wouldSee_19 (by decide) ?_
      exact k_zret hX (by omega) (by first | rw [if_pos (by omega)] | rw [if_neg (by omega)]) hW hS dX6_wouldSee_23
set_option maxHeartbeats 4000000 in
set_option maxRecDepth 100000 in
theorem m_see {l : Launch} {Dg : va_G} {cA : Nat → ClassId} {ad : Nat → Int → Nat} {oc : Nat → Nat} (hI : WI ccnt ad) (σ : St) (v n : Int) (h1 : 0 ≤ v ∧ v < 10) (h2 : 0 ≤ n ∧ n < 100) : GV l yX6_see wsX6_see ({ frames := 0, cells := 0, slots := 0, locals := 0 } : Room) Dg cA ccnt ad oc (cE cA ad σ) [.ref (ad 14 v), .int (zi n)] (cE cA ad (fSee σ v n)) := by
  intro sz
  refine g_ent (cc := cX6_see) (maxL := 2) (ret := none) (by decide) rfl hI (Nat.le_of_ble_eq_true rfl) ?_
  intro pgm env s₀ m₀ bel mth cod hX hW hS hsz ls hl
  subst hsz
  have hC := hX.1
  have hx := hC.1
  have hb := hC.2.1
  have hts := hC.2.2.2.1
  have hl : lv_has ls 2 [(0, .ref (ad 14 v)), (1, .int (zi n))] := hl
  have hin_X6 : ∀ w ∈ wsX60, w ∈ wsX6_see := by decide +kernel
  have hl_9 := hts (.fieldLink RX6 9 "KioskReel$Visitor" "timesSeen" "[I") (by decide +kernel)
  have hl_18 := hts (.fieldLink RX6 18 "KioskReel$Visitor" "wants" "[Z") (by decide +kernel)
  refine lv_aload_n hx hb dX6_see_0 rfl (lv_at hl 0 rfl) ?_
  refine cg_Visitor_timesSeen hC hW hin_X6 hl_9 (by omega) dX6_see_1 ?_
  refine lv_iload_n hx hb dX6_see_4 rfl (lv_at hl 1 rfl) ?_
  refine lv_dup2_11 hx hb dX6_see_5 rfl rfl ?_
  refine ca_seen hC hW (by omega) (by omega) (v := σ 19 v n) rfl dX6_see_6 ?_
  refine k_iconst hC dX6_see_7 ?_
  refine k_iadd hC dX6_see_8 ?_
  refine cs_seen hC hW (by omega) (by omega) hS dX6_see_9 (fun H locs hW hS => ?_)
  obtain ⟨σ1, hσ1⟩ : ∃ z, z = ups σ 19 v n ((σ 19 v n) + 1) := ⟨_, rfl⟩
  rw [← hσ1] at hW
  refine lv_aload_n hx hb dX6_see_10 rfl (lv_at hl 0 rfl) ?_
  refine cg_Visitor_wants hC hW hin_X6 hl_18 (by omega) dX6_see_11 ?_
  refine lv_iload_n hx hb dX6_see_14 rfl (lv_at hl 1 rfl) ?_
  refine k_iconst hC dX6_see_15 ?_
  refine cs_wants hC hW (by omega) (by omega) hS (by omega) dX6_see_16 (fun H locs hW hS => ?_)
  obtain ⟨σ2, hσ2⟩ : ∃ z, z = ups σ1 21 v n 0 := ⟨_, rfl⟩
  rw [← hσ2] at hW
  have hW : WP Dg ccnt ad (cE cA ad (fSee σ v n)) _ := (sw hW (by rw [hσ2, hσ1]; rfl))
  exact k_vret hX hW hS dX6_see_17
set_option maxHeartbeats 4000000 in
set_option maxRecDepth 100000 in
theorem m_lineAhead {l : Launch} {Dg : va_G} {cA : Nat → ClassId} {ad : Nat → Int → Nat} {oc : Nat → Nat} (hI : WI ccnt ad) (σ : St) (p : Int) (hp : 0 ≤ p ∧ p < 6) (hh : 1 ≤ σ 5 p 0 ∧ σ 5 p 0 ≤ 4) : GI l yX3_lineAhead wsX3_lineAhead ({ frames := 0, cells := 0, slots := 0, locals := 0 } : Room) Dg cA ccnt ad oc (cE cA ad σ) [.ref (ad 10 p)] (σ 4 p (σ 5 p 0 - 1)) (cE cA ad σ) := by
  intro sz
  refine g_ent (cc := cX3_lineAhead) (maxL := 1) (ret := (some .int)) (by decide) rfl hI (Nat.le_of_ble_eq_true rfl) ?_
  intro pgm env s₀ m₀ bel mth cod hX hW hS hsz ls hl
  subst hsz
  have hC := hX.1
  have hx := hC.1
  have hb := hC.2.1
  have hts := hC.2.2.2.1
  have hl : lv_has ls 1 [(0, .ref (ad 10 p))] := hl
  have hin_X3 : ∀ w ∈ wsX30, w ∈ wsX3_lineAhead := by decide +kernel
  have hl_17 := hts (.fieldLink RX3 17 "KioskReel$Player" "ahead" "[I") (by decide +kernel)
  have hl_21 := hts (.fieldLink RX3 21 "KioskReel$Player" "height" "I") (by decide +kernel)
  refine lv_aload_n hx hb dX3_lineAhead_0 rfl (lv_at hl 0 rfl) ?_
  refine cg_Player_ahead hC hW hin_X3 hl_17 (by omega) dX3_lineAhead_1 ?_
  refine lv_aload_n hx hb dX3_lineAhead_4 rfl (lv_at hl 0 rfl) ?_
  refine cg_Player_height hC hW hin_X3 hl_21 (by omega) (v := σ 5 p 0) rfl dX3_lineAhead_5 ?_
  refine k_iconst hC dX3_lineAhead_8 ?_
  refine k_isub hC dX3_lineAhead_9 ?_
  refine ca_ahead hC hW (by omega) (by omega) (v := σ 4 p ((σ 5 p 0) - 1)) rfl dX3_lineAhead_10 ?_
  exact k_iret hX rfl hW hS dX3_lineAhead_11
set_option maxHeartbeats 4000000 in
set_option maxRecDepth 100000 in
theorem m_goOnAt {l : Launch} {Dg : va_G} {cA : Nat → ClassId} {ad : Nat → Int → Nat} {oc : Nat → Nat} (hI : WI ccnt ad) (σ : St) (p n : Int) (hp : 0 ≤ p ∧ p < 6) (hh : 1 ≤ σ 5 p 0 ∧ σ 5 p 0 ≤ 4) : GV l yX3_goOnAt wsX3_goOnAt ({ frames := 0, cells := 0, slots := 0, locals := 0 } : Room) Dg cA ccnt ad oc (cE cA ad σ) [.ref (ad 10 p), .int (zi n)] (cE cA ad (ups σ 4 p (σ 5 p 0 - 1) n)) := by
  intro sz
  refine g_ent (cc := cX3_goOnAt) (maxL := 2) (ret := none) (by decide) rfl hI (Nat.le_of_ble_eq_true rfl) ?_
  intro pgm env s₀ m₀ bel mth cod hX hW hS hsz ls hl
  subst hsz
  have hC := hX.1
  have hx := hC.1
  have hb := hC.2.1
  have hts := hC.2.2.2.1
  have hl : lv_has ls 2 [(0, .ref (ad 10 p)), (1, .int (zi n))] := hl
  have hin_X3 : ∀ w ∈ wsX30, w ∈ wsX3_goOnAt := by decide +kernel
  have hl_17 := hts (.fieldLink RX3 17 "KioskReel$Player" "ahead" "[I") (by decide +kernel)
  have hl_21 := hts (.fieldLink RX3 21 "KioskReel$Player" "height" "I") (by decide +kernel)
  refine lv_aload_n hx hb dX3_goOnAt_0 rfl (lv_at hl 0 rfl) ?_
  refine cg_Player_ahead hC hW hin_X3 hl_17 (by omega) dX3_goOnAt_1 ?_
  refine lv_aload_n hx hb dX3_goOnAt_4 rfl (lv_at hl 0 rfl) ?_
  refine cg_Player_height hC hW hin_X3 hl_21 (by omega) (v := σ 5 p 0) rfl dX3_goOnAt_5 ?_
  refine k_iconst hC dX3_goOnAt_8 ?_
  refine k_isub hC dX3_goOnAt_9 ?_
  refine lv_iload_n hx hb dX3_goOnAt_10 rfl (lv_at hl 1 rfl) ?_
  refine cs_ahead hC hW (by omega) (by omega) hS dX3_goOnAt_11 (fun H locs hW hS => ?_)
  obtain ⟨σ1, hσ1⟩ : ∃ z, z = ups σ 4 p ((σ 5 p 0) - 1) n := ⟨_, rfl⟩
  rw [← hσ1] at hW
  have hW : WP Dg ccnt ad (cE cA ad (ups σ 4 p (σ 5 p 0 - 1) n)) _ := (sw hW (by rw [hσ1]))
  exact k_vret hX hW hS dX3_goOnAt_12
set_option maxHeartbeats 4000000 in
set_option maxRecDepth 100000 in
theorem m_isAtEnd {l : Launch} {Dg : va_G} {cA : Nat → ClassId} {ad : Nat → Int → Nat} {oc : Nat → Nat} (hI : WI ccnt ad) (σ : St) (p : Int) (hp : 0 ≤ p ∧ p < 6) (hh : 1 ≤ σ 5 p 0 ∧ σ 5 p 0 ≤ 4) (h3 : 0 ≤ σ 3 (8 + 4 * p + (σ 5 p 0 - 1)) 0 ∧ σ 3 (8 + 4 * p + (σ 5 p 0 - 1)) 0 ≤ 20) (h4 : 0 ≤ σ 4 p (σ 5 p 0 - 1) ∧ σ 4 p (σ 5 p 0 - 1) ≤ 20) : GI l yX3_isAtEnd wsX3_isAtEnd ({ frames := 1, cells := 0, slots := 0, locals := 20 } : Room) Dg cA ccnt ad oc (cE cA ad σ) [.ref (ad 10 p)] (if σ 3 (8 + 4 * p + (σ 5 p 0 - 1)) 0 ≤ σ 4 p (σ 5 p 0 - 1) then 1 else 0) (cE cA ad σ) := by
  intro sz
  refine g_ent (cc := cX3_isAtEnd) (maxL := 1) (ret := (some .boolean)) (by decide) rfl hI (Nat.le_of_ble_eq_true rfl) ?_
  intro pgm env s₀ m₀ bel mth cod hX hW hS hsz ls hl
  subst hsz
  have hC := hX.1
  have hx := hC.1
  have hb := hC.2.1
  have hts := hC.2.2.2.1
  have hl : lv_has ls 1 [(0, .ref (ad 10 p))] := hl
  have hin_X3 : ∀ w ∈ wsX30, w ∈ wsX3_isAtEnd := by decide +kernel
  have hin_X5 : ∀ w ∈ wsX50, w ∈ wsX3_isAtEnd := by decide +kernel
  have hl_11 := hts (.fieldLink RX3 11 "KioskReel$Player" "pile" "[LKioskReel$Reel;") (by decide +kernel)
  have hl_21 := hts (.fieldLink RX3 21 "KioskReel$Player" "height" "I") (by decide +kernel)
  have hl_63 := hts (.fieldLink RX3 63 "KioskReel$Reel" "size" "I") (by decide +kernel)
  refine lv_aload_n hx hb dX3_isAtEnd_0 rfl (lv_at hl 0 rfl) ?_
  refine k_callI (As := []) (rest := []) hX hl.1 (m_lineAhead hI σ p (by omega) (by omega)) (cwV 0 hts gX3_isAtEnd_X3_lineAhead rfl rfl rfl (by decide +kernel) ⟨Nat.le_of_ble_eq_true rfl, Nat.le_of_ble_eq_true rfl⟩) (rc_Player hC hW (by omega)) hW hS ⟨Nat.zero_le _, Nat.zero_le _⟩ rfl rfl (Nat.le_of_ble_eq_true rfl) dX3_isAtEnd_1 (fun H locs hW hS _ _ => ?_)
  refine lv_aload_n hx hb dX3_isAtEnd_4 rfl (lv_at hl 0 rfl) ?_
  refine cg_Player_pile hC hW hin_X3 hl_11 (by omega) dX3_isAtEnd_5 ?_
  refine lv_aload_n hx hb dX3_isAtEnd_8 rfl (lv_at hl 0 rfl) ?_
  refine cg_Player_height hC hW hin_X3 hl_21 (by omega) (v := σ 5 p 0) rfl dX3_isAtEnd_9 ?_
  refine k_iconst hC dX3_isAtEnd_12 ?_
  refine k_isub hC dX3_isAtEnd_13 ?_
  refine ca_pile hC hW (by omega) (by omega) dX3_isAtEnd_14 ?_
  refine cg_Reel_size hC hW hin_X5 hl_63 (by omega) (v := σ 3 (8 + 4 * p + ((σ 5 p 0) - 1)) 0) rfl dX3_isAtEnd_15 ?_
  refine k_icmp_lt (tgt := 25) hC dX3_isAtEnd_18 (by decide) (by omega) (fun c1 => ?_) (fun c1 => ?_)
  · refine k_iconst hC dX3_isAtEnd_25 ?_
    exact k_zret hX (by omega) (by first | rw [if_pos (by omega)] | rw [if_neg (by omega)]) hW hS dX3_isAtEnd_26
  · refine k_iconst hC dX3_isAtEnd_21 ?_
    refine lv_goto (tgt := 26) hx hb dX3_isAtEnd_22 (by decide) ?_
    exact k_zret hX (by omega) (by first | rw [if_pos (by omega)] | rw [if_neg (by omega)]) hW hS dX3_isAtEnd_26
set_option maxHeartbeats 4000000 in
set_option maxRecDepth 100000 in
theorem m_takeEnded {l : Launch} {Dg : va_G} {cA : Nat → ClassId} {ad : Nat → Int → Nat} {oc : Nat → Nat} (hI : WI ccnt ad) (σ : St) (p : Int) (hp : 0 ≤ p ∧ p < 6) (hh : 1 ≤ σ 5 p 0 ∧ σ 5 p 0 ≤ 4) (h3 : ∀ r : Int, 0 ≤ r → r < 32 → 0 ≤ σ 3 r 0 ∧ σ 3 r 0 ≤ 20) (h4 : ∀ j : Int, 0 ≤ j → j < 4 → 0 ≤ σ 4 p j ∧ σ 4 p j ≤ 20) : GV l yX3_takeEndedFromPile wsX3_takeEndedFromPile ({ frames := 2, cells := 0, slots := 0, locals := 40 } : Room) Dg cA ccnt ad oc (cE cA ad σ) [.ref (ad 10 p)] (cE cA ad (fPop σ p)) := by
  intro sz
  refine g_ent (cc := cX3_takeEndedFromPile) (maxL := 1) (ret := none) (by decide) rfl hI (Nat.le_of_ble_eq_true rfl) ?_
  intro pgm env s₀ m₀ bel mth cod hX hW hS hsz ls hl
  subst hsz
  have hC := hX.1
  have hx := hC.1
  have hb := hC.2.1
  have hts := hC.2.2.2.1
  have hl : lv_has ls 1 [(0, .ref (ad 10 p))] := hl
  have hin_X3 : ∀ w ∈ wsX30, w ∈ wsX3_takeEndedFromPile := by decide +kernel
  have hl_21 := hts (.fieldLink RX3 21 "KioskReel$Player" "height" "I") (by decide +kernel)
  have loop_0 : ∀ (fuel : Nat) (τ : St) (k : Nat), (k : Int) < (fuel : Int) → (popN k τ p = fPop σ p) → (1 ≤ τ 5 p 0 ∧ τ 5 p 0 ≤ (k : Int) + 1 ∧ τ 5 p 0 ≤ 4) → (∀ (t : Nat) (i j : Int), t ≠ 5 → t ≠ 24 → τ t i j = σ t i j) → ∀ (H : Heap) (locs : List Loc), WP Dg ccnt ad (cE cA ad τ) H → va_S (WA ccnt ad s₀.heap.size) s₀.heap H locs → ∀ ls : Array Slot, lv_has ls 1 [(0, .ref (ad 10 p))] → W pgm l env ({ frames := 2, cells := 0, slots := 0, locals := 40 } : Room) s₀ m₀ ([.ref (ad 10 p)] : List Value).toArray bel mth cod H locs 0 0 (MQ bel (va_Qv (fun _ : Unit => True) (gB Dg ccnt ad (cE cA ad (fPop σ p))) (WA ccnt ad s₀.heap.size)) ([.ref (ad 10 p)] : List Value).toArray s₀ 0 0 (WA ccnt ad s₀.heap.size)) (F0 m₀ 0 ls []) := by
    intro fuel
    induction fuel with
    | zero => intro τ k hn i1 i2 i3; exact absurd hn (by omega)
    | succ fuel ih_0 =>
      intro τ k hn i1 i2 i3 H locs hW hS ls hl
      refine lv_aload_n hx hb dX3_takeEndedFromPile_0 rfl (lv_at hl 0 rfl) ?_
      refine cg_Player_height hC hW hin_X3 hl_21 (by omega) (v := τ 5 p 0) rfl dX3_takeEndedFromPile_1 ?_
      refine k_iconst hC dX3_takeEndedFromPile_4 ?_
      refine k_icmp_le (tgt := 28) hC dX3_takeEndedFromPile_5 (by decide) (by omega) (fun c1 => ?_) (fun c1 => ?_)
      · have hW : WP Dg ccnt ad (cE cA ad (fPop σ p)) _ := (sw hW (by rw [← i1]; exact (popN_stop k (fun z => by have z1 := z.1; have z2 : τ 3 (8 + 4 * p + (τ 5 p 0 - 1)) 0 ≤ τ 4 p (τ 5 p 0 - 1) := z.2; omega)).symm))
        exact k_vret hX hW hS dX3_takeEndedFromPile_28
      · refine lv_aload_n hx hb dX3_takeEndedFromPile_8 rfl (lv_at hl 0 rfl) ?_
        refine k_callI (As := []) (rest := []) hX hl.1 (m_isAtEnd hI τ p hp (by omega) (by rw [i3 3 _ _ (by decide) (by decide)]; exact h3 _ (by omega) (by omega)) (by rw [i3 4 _ _ (by decide) (by decide)]; exact h4 _ (by omega) (by omega))) (cwV 0 hts gX3_takeEndedFromPile_X3_isAtEnd rfl rfl rfl (by decide +kernel) ⟨Nat.le_of_ble_eq_true rfl, Nat.le_of_ble_eq_true rfl⟩) (rc_Player hC hW (by omega)) hW hS ⟨Nat.zero_le _, Nat.zero_le _⟩ rfl rfl (Nat.le_of_ble_eq_true rfl) dX3_takeEndedFromPile_9 (fun H locs hW hS _ _ => ?_)
        refine k_if_eq (tgt := 28) hC dX3_takeEndedFromPile_12 (by decide) (by omega) (fun c2 => ?_) (fun c2 => ?_)
        · have hW : WP Dg ccnt ad (cE cA ad (fPop σ p)) _ := (sw hW (by rw [← i1]; exact (popN_stop k (fun z => by have z1 := z.1; have z2 : τ 3 (8 + 4 * p + (τ 5 p 0 - 1)) 0 ≤ τ 4 p (τ 5 p 0 - 1) := z.2; omega)).symm))
          exact k_vret hX hW hS dX3_takeEndedFromPile_28
        · obtain ⟨k', rfl⟩ : ∃ k', k = k' + 1 := ⟨k - 1, by omega⟩
          refine lv_aload_n hx hb dX3_takeEndedFromPile_15 rfl (lv_at hl 0 rfl) ?_
          refine lv_dup hx hb dX3_takeEndedFromPile_16 rfl ?_
          refine cg_Player_height hC hW hin_X3 hl_21 (by omega) (v := τ 5 p 0) rfl dX3_takeEndedFromPile_17 ?_
          refine k_iconst hC dX3_takeEndedFromPile_20 ?_
          refine k_isub hC dX3_takeEndedFromPile_21 ?_
          refine cp_Player_height hC hW hin_X3 hl_21 (by omega) hS dX3_takeEndedFromPile_22 (fun H locs hW hS => ?_)
          obtain ⟨σ1, hσ1⟩ : ∃ z, z = ups τ 5 p 0 ((τ 5 p 0) - 1) := ⟨_, rfl⟩
          rw [← hσ1] at hW
          refine lv_goto (tgt := 0) hx hb dX3_takeEndedFromPile_25 (by decide) ?_
          exact ih_0 (pop1 τ p) k' (by omega) ((popN_go k' ⟨by omega, show τ 3 (8 + 4 * p + (τ 5 p 0 - 1)) 0 ≤ τ 4 p (τ 5 p 0 - 1) by omega⟩).symm.trans i1) (by rw [pop1_h]; omega) (fun t i j h1 h2 => by rw [pop1_o _ _ h1 h2, i3 t i j h1 h2]) _ _ (gh (u := 24) (fun _ _ => rfl) (sw hW hσ1)) hS _ (lv_sub hl [0] rfl)
  exact loop_0 (Int.toNat ((3 : Int)) + 1) σ 3 (by omega) rfl (by omega) (fun _ _ _ _ _ => rfl) _ _ hW hS _ (lv_sub hl [0] rfl)
set_option maxHeartbeats 4000000 in
set_option maxRecDepth 100000 in
theorem m_putOnPile {l : Launch} {Dg : va_G} {cA : Nat → ClassId} {ad : Nat → Int → Nat} {oc : Nat → Nat} (hI : WI ccnt ad) (σ : St) (p r : Int) (hp : 0 ≤ p ∧ p < 6) (hh : 0 ≤ σ 5 p 0 ∧ σ 5 p 0 ≤ 4) (hr : 0 ≤ r ∧ r < 8) (h3 : 0 ≤ σ 3 r 0 ∧ σ 3 r 0 ≤ 20) (hK : ∀ j : Int, 0 ≤ j → j < 20 → 0 ≤ σ 1 r j ∧ σ 1 r j < 65536) (h0 : σ 5 p 0 = 0 → σ 7 p 0 = r) : GV l yX3_putOnPile wsX3_putOnPile ({ frames := 1, cells := 0, slots := 0, locals := 22 } : Room) Dg cA ccnt ad oc (cE cA ad σ) [.ref (ad 10 p), .ref (ad 6 r)] (cE cA ad (fPutG σ p r)) := by
  intro sz
  refine g_ent (cc := cX3_putOnPile) (maxL := 2) (ret := none) (by decide) rfl hI (Nat.le_of_ble_eq_true rfl) ?_
  intro pgm env s₀ m₀ bel mth cod hX hW hS hsz ls hl
  subst hsz
  have hC := hX.1
  have hx := hC.1
  have hb := hC.2.1
  have hts := hC.2.2.2.1
  have hl : lv_has ls 2 [(0, .ref (ad 10 p)), (1, .ref (ad 6 r))] := hl
  have hin_X3 : ∀ w ∈ wsX30, w ∈ wsX3_putOnPile := by decide +kernel
  have hl_11 := hts (.fieldLink RX3 11 "KioskReel$Player" "pile" "[LKioskReel$Reel;") (by decide +kernel)
  have hl_17 := hts (.fieldLink RX3 17 "KioskReel$Player" "ahead" "[I") (by decide +kernel)
  have hl_21 := hts (.fieldLink RX3 21 "KioskReel$Player" "height" "I") (by decide +kernel)
  refine lv_aload_n hx hb dX3_putOnPile_0 rfl (lv_at hl 0 rfl) ?_
  refine cg_Player_height hC hW hin_X3 hl_21 (by omega) (v := σ 5 p 0) rfl dX3_putOnPile_1 ?_
  refine k_iconst hC dX3_putOnPile_4 ?_
  refine k_icmp_ge (tgt := 41) hC dX3_putOnPile_5 (by decide) (by omega) (fun c1 => ?_) (fun c1 => ?_)
  · have hW : WP Dg ccnt ad (cE cA ad (fPutG σ p r)) _ := (by unfold fPutG; first | (rw [if_pos (by omega)]; exact put_end hW (by rw []) h0) | (rw [if_neg (by omega)]; exact hW))
    exact k_vret hX hW hS dX3_putOnPile_41
  · refine lv_aload_n hx hb dX3_putOnPile_8 rfl (lv_at hl 0 rfl) ?_
    refine cg_Player_pile hC hW hin_X3 hl_11 (by omega) dX3_putOnPile_9 ?_
    refine lv_aload_n hx hb dX3_putOnPile_12 rfl (lv_at hl 0 rfl) ?_
    refine cg_Player_height hC hW hin_X3 hl_21 (by omega) (v := σ 5 p 0) rfl dX3_putOnPile_13 ?_
    refine ca_pile hC hW (by omega) (by omega) dX3_putOnPile_16 ?_
    refine lv_aload_n hx hb dX3_putOnPile_17 rfl (lv_at hl 1 rfl) ?_
    refine k_callV (As := [.ref (ad 6 r)]) (rest := []) hX hl.1 (m_copyFrom hI σ (8 + 4 * p + (σ 5 p 0)) r (by omega) (by omega) (by omega) h3 hK) (cwV 1 hts gX3_putOnPile_X5_copyFrom rfl rfl rfl (by decide +kernel) ⟨Nat.le_of_ble_eq_true rfl, Nat.le_of_ble_eq_true rfl⟩) (rc_Reel hC hW (by omega)) hW hS ⟨Nat.zero_le _, Nat.zero_le _⟩ rfl rfl (Nat.le_of_ble_eq_true rfl) dX3_putOnPile_18 (fun H locs hW hS _ _ => ?_)
    obtain ⟨σ1, hσ1⟩ : ∃ z, z = fCopy σ (8 + 4 * p + (σ 5 p 0)) r := ⟨_, rfl⟩
    rw [← hσ1] at hW
    refine lv_aload_n hx hb dX3_putOnPile_21 rfl (lv_at hl 0 rfl) ?_
    refine cg_Player_ahead hC hW hin_X3 hl_17 (by omega) dX3_putOnPile_22 ?_
    refine lv_aload_n hx hb dX3_putOnPile_25 rfl (lv_at hl 0 rfl) ?_
    refine cg_Player_height hC hW hin_X3 hl_21 (by omega) (v := σ 5 p 0) (by rw [hσ1, fCopy_o _ _ _ (by decide) (by decide) (by decide)]) dX3_putOnPile_26 ?_
    refine k_iconst hC dX3_putOnPile_29 ?_
    refine cs_ahead hC hW (by omega) (by omega) hS dX3_putOnPile_30 (fun H locs hW hS => ?_)
    obtain ⟨σ2, hσ2⟩ : ∃ z, z = ups σ1 4 p (σ 5 p 0) 0 := ⟨_, rfl⟩
    rw [← hσ2] at hW
    refine lv_aload_n hx hb dX3_putOnPile_31 rfl (lv_at hl 0 rfl) ?_
    refine lv_dup hx hb dX3_putOnPile_32 rfl ?_
    refine cg_Player_height hC hW hin_X3 hl_21 (by omega) (v := σ 5 p 0) (by rw [hσ2, ups_t _ (by decide), hσ1, fCopy_o _ _ _ (by decide) (by decide) (by decide)]) dX3_putOnPile_33 ?_
    refine k_iconst hC dX3_putOnPile_36 ?_
    refine k_iadd hC dX3_putOnPile_37 ?_
    refine cp_Player_height hC hW hin_X3 hl_21 (by omega) hS dX3_putOnPile_38 (fun H locs hW hS => ?_)
    obtain ⟨σ3, hσ3⟩ : ∃ z, z = ups σ2 5 p 0 ((σ 5 p 0) + 1) := ⟨_, rfl⟩
    rw [← hσ3] at hW
    have hW : WP Dg ccnt ad (cE cA ad (fPutG σ p r)) _ := (by unfold fPutG; first | (rw [if_pos (by omega)]; exact put_end hW (by rw [hσ3, hσ2, hσ1]) h0) | (rw [if_neg (by omega)]; exact hW))
    exact k_vret hX hW hS dX3_putOnPile_41
set_option maxHeartbeats 4000000 in
set_option maxRecDepth 100000 in
theorem m_beginPile {l : Launch} {Dg : va_G} {cA : Nat → ClassId} {ad : Nat → Int → Nat} {oc : Nat → Nat} (hI : WI ccnt ad) (σ : St) (p r : Int) (hp : 0 ≤ p ∧ p < 6) (hr : 0 ≤ r ∧ r < 8) (h3 : 0 ≤ σ 3 r 0 ∧ σ 3 r 0 ≤ 20) (hK : ∀ j : Int, 0 ≤ j → j < 20 → 0 ≤ σ 1 r j ∧ σ 1 r j < 65536) (h0 : σ 7 p 0 = r) : GV l yX3_beginPile wsX3_beginPile ({ frames := 2, cells := 0, slots := 0, locals := 43 } : Room) Dg cA ccnt ad oc (cE cA ad σ) [.ref (ad 10 p), .ref (ad 6 r)] (cE cA ad (fBegP σ p r)) := by
  intro sz
  refine g_ent (cc := cX3_beginPile) (maxL := 2) (ret := none) (by decide) rfl hI (Nat.le_of_ble_eq_true rfl) ?_
  intro pgm env s₀ m₀ bel mth cod hX hW hS hsz ls hl
  subst hsz
  have hC := hX.1
  have hx := hC.1
  have hb := hC.2.1
  have hts := hC.2.2.2.1
  have hl : lv_has ls 2 [(0, .ref (ad 10 p)), (1, .ref (ad 6 r))] := hl
  have hin_X3 : ∀ w ∈ wsX30, w ∈ wsX3_beginPile := by decide +kernel
  have hl_21 := hts (.fieldLink RX3 21 "KioskReel$Player" "height" "I") (by decide +kernel)
  refine lv_aload_n hx hb dX3_beginPile_0 rfl (lv_at hl 0 rfl) ?_
  refine k_iconst hC dX3_beginPile_1 ?_
  refine cp_Player_height hC hW hin_X3 hl_21 (by omega) hS dX3_beginPile_2 (fun H locs hW hS => ?_)
  obtain ⟨σ1, hσ1⟩ : ∃ z, z = ups σ 5 p 0 0 := ⟨_, rfl⟩
  rw [← hσ1] at hW
  refine lv_aload_n hx hb dX3_beginPile_5 rfl (lv_at hl 0 rfl) ?_
  refine lv_aload_n hx hb dX3_beginPile_6 rfl (lv_at hl 1 rfl) ?_
  refine k_callV (As := [.ref (ad 6 r)]) (rest := []) hX hl.1 (m_putOnPile hI σ1 p r hp (by rw [hσ1, ups_eq]; omega) hr (by rw [hσ1, ups_t _ (by decide)]; exact h3) (by rw [hσ1]; intro j a b; rw [ups_t _ (by decide)]; exact hK j a b) (fun _ => by rw [hσ1, ups_t _ (by decide)]; exact h0)) (cwV 1 hts gX3_beginPile_X3_putOnPile rfl rfl rfl (by decide +kernel) ⟨Nat.le_of_ble_eq_true rfl, Nat.le_of_ble_eq_true rfl⟩) (rc_Player hC hW (by omega)) hW hS ⟨Nat.zero_le _, Nat.zero_le _⟩ rfl rfl (Nat.le_of_ble_eq_true rfl) dX3_beginPile_7 (fun H locs hW hS _ _ => ?_)
  obtain ⟨σ2, hσ2⟩ : ∃ z, z = fPutG σ1 p r := ⟨_, rfl⟩
  rw [← hσ2] at hW
  have hW : WP Dg ccnt ad (cE cA ad (fBegP σ p r)) _ := (sw hW (by rw [hσ2, hσ1, fPutG, ups_eq, if_pos (by decide)]; rfl))
  exact k_vret hX hW hS dX3_beginPile_10
set_option maxHeartbeats 4000000 in
set_option maxRecDepth 100000 in
theorem m_begin {l : Launch} {Dg : va_G} {cA : Nat → ClassId} {ad : Nat → Int → Nat} {oc : Nat → Nat} (hI : WI ccnt ad) (σ : St) (p r : Int) (hp : 0 ≤ p ∧ p < 6) (hr : 0 ≤ r ∧ r < 8) (h3 : 0 ≤ σ 3 r 0 ∧ σ 3 r 0 ≤ 20) (hK : ∀ j : Int, 0 ≤ j → j < 20 → 0 ≤ σ 1 r j ∧ σ 1 r j < 65536) : GV l yX3_begin wsX3_begin ({ frames := 3, cells := 0, slots := 0, locals := 64 } : Room) Dg cA ccnt ad oc (cE cA ad σ) [.ref (ad 10 p), .int (zi r), .ref (ad 6 r)] (cE cA ad (fBegin σ p r)) := by
  intro sz
  refine g_ent (cc := cX3_begin) (maxL := 3) (ret := none) (by decide) rfl hI (Nat.le_of_ble_eq_true rfl) ?_
  intro pgm env s₀ m₀ bel mth cod hX hW hS hsz ls hl
  subst hsz
  have hC := hX.1
  have hx := hC.1
  have hb := hC.2.1
  have hts := hC.2.2.2.1
  have hl : lv_has ls 3 [(0, .ref (ad 10 p)), (1, .int (zi r)), (2, .ref (ad 6 r))] := hl
  have hin_X3 : ∀ w ∈ wsX30, w ∈ wsX3_begin := by decide +kernel
  have hl_28 := hts (.fieldLink RX3 28 "KioskReel$Player" "awaitedDevice" "I") (by decide +kernel)
  have hl_32 := hts (.fieldLink RX3 32 "KioskReel$Player" "started" "Z") (by decide +kernel)
  have hl_36 := hts (.fieldLink RX3 36 "KioskReel$Player" "firstList" "I") (by decide +kernel)
  have hl_39 := hts (.fieldLink RX3 39 "KioskReel$Player" "counter" "I") (by decide +kernel)
  have hl_42 := hts (.fieldLink RX3 42 "KioskReel$Player" "ticksToWait" "I") (by decide +kernel)
  refine lv_aload_n hx hb dX3_begin_0 rfl (lv_at hl 0 rfl) ?_
  refine k_iconst hC dX3_begin_1 ?_
  refine cp_Player_started hC hW hin_X3 hl_32 (by omega) hS (by omega) dX3_begin_2 (fun H locs hW hS => ?_)
  obtain ⟨σ1, hσ1⟩ : ∃ z, z = ups σ 6 p 0 1 := ⟨_, rfl⟩
  rw [← hσ1] at hW
  refine lv_aload_n hx hb dX3_begin_5 rfl (lv_at hl 0 rfl) ?_
  refine lv_iload_n hx hb dX3_begin_6 rfl (lv_at hl 1 rfl) ?_
  refine cp_Player_firstList hC hW hin_X3 hl_36 (by omega) hS dX3_begin_7 (fun H locs hW hS => ?_)
  obtain ⟨σ2, hσ2⟩ : ∃ z, z = ups σ1 7 p 0 r := ⟨_, rfl⟩
  rw [← hσ2] at hW
  refine lv_aload_n hx hb dX3_begin_10 rfl (lv_at hl 0 rfl) ?_
  refine k_iconst hC dX3_begin_11 ?_
  refine cp_Player_counter hC hW hin_X3 hl_39 (by omega) hS dX3_begin_12 (fun H locs hW hS => ?_)
  obtain ⟨σ3, hσ3⟩ : ∃ z, z = ups σ2 9 p 0 0 := ⟨_, rfl⟩
  rw [← hσ3] at hW
  refine lv_aload_n hx hb dX3_begin_15 rfl (lv_at hl 0 rfl) ?_
  refine k_iconst hC dX3_begin_16 ?_
  refine cp_Player_ticksToWait hC hW hin_X3 hl_42 (by omega) hS dX3_begin_17 (fun H locs hW hS => ?_)
  obtain ⟨σ4, hσ4⟩ : ∃ z, z = ups σ3 10 p 0 0 := ⟨_, rfl⟩
  rw [← hσ4] at hW
  refine lv_aload_n hx hb dX3_begin_20 rfl (lv_at hl 0 rfl) ?_
  refine k_iconst hC dX3_begin_21 ?_
  refine cp_Player_awaitedDevice hC hW hin_X3 hl_28 (by omega) hS dX3_begin_22 (fun H locs hW hS => ?_)
  obtain ⟨σ5, hσ5⟩ : ∃ z, z = ups σ4 11 p 0 (-1) := ⟨_, rfl⟩
  rw [← hσ5] at hW
  refine lv_aload_n hx hb dX3_begin_25 rfl (lv_at hl 0 rfl) ?_
  refine lv_aload_n hx hb dX3_begin_26 rfl (lv_at hl 2 rfl) ?_
  refine k_callV (As := [.ref (ad 6 r)]) (rest := []) hX hl.1 (m_beginPile hI σ5 p r hp hr (by simp only [hσ5, hσ4, hσ3, hσ2, hσ1, ups]; simpa using h3) (by simp only [hσ5, hσ4, hσ3, hσ2, hσ1, ups]; simpa using hK) (by simp [hσ5, hσ4, hσ3, hσ2, hσ1, ups])) (cwV 1 hts gX3_begin_X3_beginPile rfl rfl rfl (by decide +kernel) ⟨Nat.le_of_ble_eq_true rfl, Nat.le_of_ble_eq_true rfl⟩) (rc_Player hC hW (by omega)) hW hS ⟨Nat.zero_le _, Nat.zero_le _⟩ rfl rfl (Nat.le_of_ble_eq_true rfl) dX3_begin_27 (fun H locs hW hS _ _ => ?_)
  obtain ⟨σ6, hσ6⟩ : ∃ z, z = fBegP σ5 p r := ⟨_, rfl⟩
  rw [← hσ6] at hW
  have hW : WP Dg ccnt ad (cE cA ad (fBegin σ p r)) _ := (begin_end hW (by rw [hσ6, hσ5, hσ4, hσ3, hσ2, hσ1]))
  exact k_vret hX hW hS dX3_begin_30
end M1
