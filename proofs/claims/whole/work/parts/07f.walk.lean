section M8
set_option maxHeartbeats 1000000 in
set_option maxRecDepth 100000 in
theorem n_watches {l : Launch} {Dg : va_G} {cA : Nat → ClassId} {ad : Nat → Int → Nat} {oc : Nat → Nat} (hI : WI mcnt ad) {N M : Int} (σ : St) (hv : Inv N M σ) (hM : M ≤ 2000000) : GV l yX8_watches wsX8_watches ({ frames := 2, cells := 0, slots := 0, locals := 44 } : Room) Dg cA mcnt ad oc (mE cA ad σ) [.ref (ad 0 0)] (mE cA ad (fWs 6 σ 0)) := by
  intro sz
  refine g_ent (cc := cX8_watches) (maxL := 3) (ret := none) (by decide) rfl hI (Nat.le_of_ble_eq_true rfl) ?_
  intro pgm env s₀ m₀ bel mth cod hX hW hS hsz ls hl
  subst hsz
  have hC := hX.1
  have hx := hC.1
  have hb := hC.2.1
  have hts := hC.2.2.2.1
  have hl : lv_has ls 3 [(0, .ref (ad 0 0))] := hl
  have hin_X8 : ∀ w ∈ wsX80, w ∈ wsX8_watches := by decide +kernel
  have hl_38 := hts (.fieldLink RX8 38 "KioskReelModel" "isFrozen" "[Z") (by decide +kernel)
  have hl_41 := hts (.fieldLink RX8 41 "KioskReelModel" "isOut" "[Z") (by decide +kernel)
  have hl_59 := hts (.fieldLink RX8 59 "KioskReelModel" "frozenFor" "[I") (by decide +kernel)
  have hl_65 := hts (.fieldLink RX8 65 "KioskReelModel" "playing" "[I") (by decide +kernel)
  have hl_68 := hts (.fieldLink RX8 68 "KioskReelModel" "playingMany" "[I") (by decide +kernel)
  have hl_100 := hts (.fieldLink RX8 100 "KioskReelModel" "kiosks" "I") (by decide +kernel)
  refine k_iconst hC dX8_watches_0 ?_
  refine lv_istore_n (lv' := [(1, .int (zi 0)), (0, .ref (ad 0 0))]) hx hb dX8_watches_1 rfl hl (by decide) rfl (fun ls hl => ?_)
  have loop_2 : ∀ (fuel : Nat) (τ : St) (i : Int), 6 - i < (fuel : Int) → (0 ≤ i ∧ i ≤ 6) → (fWs (6 - i).toNat τ i = fWs 6 σ 0) → (Inv N (M + i) τ) → ∀ (H : Heap) (locs : List Loc), WP Dg mcnt ad (mE cA ad τ) H → va_S (WA mcnt ad s₀.heap.size) s₀.heap H locs → ∀ ls : Array Slot, lv_has ls 3 [(1, .int (zi i)), (0, .ref (ad 0 0))] → W pgm l env ({ frames := 2, cells := 0, slots := 0, locals := 44 } : Room) s₀ m₀ ([.ref (ad 0 0)] : List Value).toArray bel mth cod H locs 0 0 (MQ bel (va_Qv (fun _ : Unit => True) (gB Dg mcnt ad (mE cA ad (fWs 6 σ 0))) (WA mcnt ad s₀.heap.size)) ([.ref (ad 0 0)] : List Value).toArray s₀ 0 0 (WA mcnt ad s₀.heap.size)) (F0 m₀ 2 ls []) := by
    intro fuel
    induction fuel with
    | zero => intro τ i hn i1 i2 i3; exact absurd hn (by omega)
    | succ fuel ih_2 =>
      intro τ i hn i1 i2 i3 H locs hW hS ls hl
      have hA := i3.A
      unfold IvA at hA
      refine lv_iload_n hx hb dX8_watches_2 rfl (lv_at hl 0 rfl) ?_
      refine lv_aload_n hx hb dX8_watches_3 rfl (lv_at hl 1 rfl) ?_
      refine mg_kiosks_f hC hW hin_X8 hl_100 (v := τ 27 0 0) rfl dX8_watches_4 ?_
      refine k_icmp_ge (tgt := 102) hC dX8_watches_7 (by decide) (by omega) (fun c1 => ?_) (fun c1 => ?_)
      · have hW : WP Dg mcnt ad (mE cA ad (fWs 6 σ 0)) _ := (sw hW (by rw [← i2, fWs_stop (by omega)]))
        exact k_vret hX hW hS dX8_watches_102
      · refine lv_aload_n hx hb dX8_watches_10 rfl (lv_at hl 1 rfl) ?_
        refine mg_frozenFor hC hW hin_X8 hl_59 dX8_watches_11 ?_
        refine lv_iload_n hx hb dX8_watches_14 rfl (lv_at hl 0 rfl) ?_
        obtain ⟨hK1, hK2, hK3, hK4, hK5, hK6, hK7, hK8⟩ := i3.K i (by omega) (by omega)
        refine lv_dup2_11 hx hb dX8_watches_15 rfl rfl ?_
        refine ma_frozenFor hC hW (by omega) (v := τ 23 i 0) rfl dX8_watches_16 ?_
        refine lv_aload_n hx hb dX8_watches_17 rfl (lv_at hl 1 rfl) ?_
        refine mg_isFrozen hC hW hin_X8 hl_38 dX8_watches_18 ?_
        refine lv_iload_n hx hb dX8_watches_21 rfl (lv_at hl 0 rfl) ?_
        refine ma_isFrozen hC hW (by omega) (v := τ 12 i 0) rfl dX8_watches_22 ?_
        refine k_if_eq (tgt := 30) hC dX8_watches_23 (by decide) (by omega) (fun c2 => ?_) (fun c2 => ?_)
        · refine k_iconst hC dX8_watches_30 ?_
          refine k_iadd hC dX8_watches_31 ?_
          refine ms_frozenFor hC hW (by omega) hS dX8_watches_32 (fun H locs hW hS => ?_)
          obtain ⟨σ1, hσ1⟩ : ∃ z, z = ups τ 23 i 0 ((τ 23 i 0) + 0) := ⟨_, rfl⟩
          rw [← hσ1] at hW
          refine lv_aload_n hx hb dX8_watches_33 rfl (lv_at hl 1 rfl) ?_
          refine mg_frozenFor hC hW hin_X8 hl_59 dX8_watches_34 ?_
          refine lv_iload_n hx hb dX8_watches_37 rfl (lv_at hl 0 rfl) ?_
          refine ma_frozenFor hC hW (by omega) (v := (τ 23 i 0) + 0) (by rw [hσ1, ups_eq]) dX8_watches_38 ?_
          refine k_iconst hC dX8_watches_39 ?_
          refine k_icmp_ne (tgt := 96) hC dX8_watches_40 (by decide) (by omega) (fun c3 => ?_) (fun c3 => absurd c3 (by omega))
          rcases Classical.em (τ 13 i 0 = 0) with hac | hac
          · refine k_iinc (a := i) (lv' := [(1, .int (zi (i + 1))), (0, .ref (ad 0 0))]) hC dX8_watches_96 hl (k := 0) rfl (by decide) rfl (fun ls hl => ?_)
            refine lv_goto (tgt := 2) hx hb dX8_watches_99 (by decide) ?_
            have hl := Eq.mp (congrArg (fun z : Int => lv_has ls 3 [(1, .int (zi z)), (0, .ref (ad 0 0))]) (show (i + 1 : Int) = (i + 1) by omega)) hl
            exact ih_2 (fWatch τ i) (i + 1) (by omega) (by omega) (by rw [← fWs_step (by omega) (by omega)]; exact i2) (by have z := Inv_fWatch i3 (k := i) (by omega); rw [Int.add_assoc] at z; exact z) _ _ (by first | exact sw hW (by rw [hσ1, Int.add_zero, ups_id _ _ _ _ rfl, fWatch, if_neg (by omega), fWatch1, if_pos (by omega)]) | (rw [fWatch, if_neg (by omega), fWatch1, if_neg (by omega), if_neg (by omega)]; exact sw hW hσ1) | (rw [fWatch, if_neg (by omega), fWatch1, if_neg (by omega), if_pos (by omega), ups_comm _ (show (14 : Nat) ≠ 23 by decide)]; exact ghM (u := 14) (fun _ => rfl) (sw hW hσ1))) hS _ (lv_sub hl [0, 1] rfl)
          · refine k_iinc (a := i) (lv' := [(1, .int (zi (i + 1))), (0, .ref (ad 0 0))]) hC dX8_watches_96 hl (k := 0) rfl (by decide) rfl (fun ls hl => ?_)
            refine lv_goto (tgt := 2) hx hb dX8_watches_99 (by decide) ?_
            have hl := Eq.mp (congrArg (fun z : Int => lv_has ls 3 [(1, .int (zi z)), (0, .ref (ad 0 0))]) (show (i + 1 : Int) = (i + 1) by omega)) hl
            exact ih_2 (fWatch τ i) (i + 1) (by omega) (by omega) (by rw [← fWs_step (by omega) (by omega)]; exact i2) (by have z := Inv_fWatch i3 (k := i) (by omega); rw [Int.add_assoc] at z; exact z) _ _ (by first | exact sw hW (by rw [hσ1, Int.add_zero, ups_id _ _ _ _ rfl, fWatch, if_neg (by omega), fWatch1, if_pos (by omega)]) | (rw [fWatch, if_neg (by omega), fWatch1, if_neg (by omega), if_neg (by omega)]; exact sw hW hσ1) | (rw [fWatch, if_neg (by omega), fWatch1, if_neg (by omega), if_pos (by omega), ups_comm _ (show (14 : Nat) ≠ 23 by decide)]; exact ghM (u := 14) (fun _ => rfl) (sw hW hσ1))) hS _ (lv_sub hl [0, 1] rfl)
        · refine k_iconst hC dX8_watches_26 ?_
          refine lv_goto (tgt := 31) hx hb dX8_watches_27 (by decide) ?_
          refine k_iadd hC dX8_watches_31 ?_
          refine ms_frozenFor hC hW (by omega) hS dX8_watches_32 (fun H locs hW hS => ?_)
          obtain ⟨σ2, hσ2⟩ : ∃ z, z = ups τ 23 i 0 ((τ 23 i 0) + 1) := ⟨_, rfl⟩
          rw [← hσ2] at hW
          refine lv_aload_n hx hb dX8_watches_33 rfl (lv_at hl 1 rfl) ?_
          refine mg_frozenFor hC hW hin_X8 hl_59 dX8_watches_34 ?_
          refine lv_iload_n hx hb dX8_watches_37 rfl (lv_at hl 0 rfl) ?_
          refine ma_frozenFor hC hW (by omega) (v := (τ 23 i 0) + 1) (by rw [hσ2, ups_eq]) dX8_watches_38 ?_
          refine k_iconst hC dX8_watches_39 ?_
          refine k_icmp_ne (tgt := 96) hC dX8_watches_40 (by decide) (by omega) (fun c4 => ?_) (fun c4 => ?_)
          · rcases Classical.em (τ 13 i 0 = 0) with hac | hac
            · refine k_iinc (a := i) (lv' := [(1, .int (zi (i + 1))), (0, .ref (ad 0 0))]) hC dX8_watches_96 hl (k := 0) rfl (by decide) rfl (fun ls hl => ?_)
              refine lv_goto (tgt := 2) hx hb dX8_watches_99 (by decide) ?_
              have hl := Eq.mp (congrArg (fun z : Int => lv_has ls 3 [(1, .int (zi z)), (0, .ref (ad 0 0))]) (show (i + 1 : Int) = (i + 1) by omega)) hl
              exact ih_2 (fWatch τ i) (i + 1) (by omega) (by omega) (by rw [← fWs_step (by omega) (by omega)]; exact i2) (by have z := Inv_fWatch i3 (k := i) (by omega); rw [Int.add_assoc] at z; exact z) _ _ (by first | exact sw hW (by rw [hσ2, Int.add_zero, ups_id _ _ _ _ rfl, fWatch, if_neg (by omega), fWatch1, if_pos (by omega)]) | (rw [fWatch, if_neg (by omega), fWatch1, if_neg (by omega), if_neg (by omega)]; exact sw hW hσ2) | (rw [fWatch, if_neg (by omega), fWatch1, if_neg (by omega), if_pos (by omega), ups_comm _ (show (14 : Nat) ≠ 23 by decide)]; exact ghM (u := 14) (fun _ => rfl) (sw hW hσ2))) hS _ (lv_sub hl [0, 1] rfl)
            · refine k_iinc (a := i) (lv' := [(1, .int (zi (i + 1))), (0, .ref (ad 0 0))]) hC dX8_watches_96 hl (k := 0) rfl (by decide) rfl (fun ls hl => ?_)
              refine lv_goto (tgt := 2) hx hb dX8_watches_99 (by decide) ?_
              have hl := Eq.mp (congrArg (fun z : Int => lv_has ls 3 [(1, .int (zi z)), (0, .ref (ad 0 0))]) (show (i + 1 : Int) = (i + 1) by omega)) hl
              exact ih_2 (fWatch τ i) (i + 1) (by omega) (by omega) (by rw [← fWs_step (by omega) (by omega)]; exact i2) (by have z := Inv_fWatch i3 (k := i) (by omega); rw [Int.add_assoc] at z; exact z) _ _ (by first | exact sw hW (by rw [hσ2, Int.add_zero, ups_id _ _ _ _ rfl, fWatch, if_neg (by omega), fWatch1, if_pos (by omega)]) | (rw [fWatch, if_neg (by omega), fWatch1, if_neg (by omega), if_neg (by omega)]; exact sw hW hσ2) | (rw [fWatch, if_neg (by omega), fWatch1, if_neg (by omega), if_pos (by omega), ups_comm _ (show (14 : Nat) ≠ 23 by decide)]; exact ghM (u := 14) (fun _ => rfl) (sw hW hσ2))) hS _ (lv_sub hl [0, 1] rfl)
          · refine lv_aload_n hx hb dX8_watches_43 rfl (lv_at hl 1 rfl) ?_
            refine mg_isOut hC hW hin_X8 hl_41 dX8_watches_44 ?_
            refine lv_iload_n hx hb dX8_watches_47 rfl (lv_at hl 0 rfl) ?_
            refine ma_isOut hC hW (by omega) (v := τ 13 i 0) (by rw [hσ2, ups_t _ (by decide)]) dX8_watches_48 ?_
            refine k_if_ne (tgt := 96) hC dX8_watches_49 (by decide) (by omega) (fun c5 => ?_) (fun c5 => ?_)
            · rcases Classical.em (τ 13 i 0 = 0) with hac | hac
              · refine k_iinc (a := i) (lv' := [(1, .int (zi (i + 1))), (0, .ref (ad 0 0))]) hC dX8_watches_96 hl (k := 0) rfl (by decide) rfl (fun ls hl => ?_)
                refine lv_goto (tgt := 2) hx hb dX8_watches_99 (by decide) ?_
                have hl := Eq.mp (congrArg (fun z : Int => lv_has ls 3 [(1, .int (zi z)), (0, .ref (ad 0 0))]) (show (i + 1 : Int) = (i + 1) by omega)) hl
                exact ih_2 (fWatch τ i) (i + 1) (by omega) (by omega) (by rw [← fWs_step (by omega) (by omega)]; exact i2) (by have z := Inv_fWatch i3 (k := i) (by omega); rw [Int.add_assoc] at z; exact z) _ _ (by first | exact sw hW (by rw [hσ2, Int.add_zero, ups_id _ _ _ _ rfl, fWatch, if_neg (by omega), fWatch1, if_pos (by omega)]) | (rw [fWatch, if_neg (by omega), fWatch1, if_neg (by omega), if_neg (by omega)]; exact sw hW hσ2) | (rw [fWatch, if_neg (by omega), fWatch1, if_neg (by omega), if_pos (by omega), ups_comm _ (show (14 : Nat) ≠ 23 by decide)]; exact ghM (u := 14) (fun _ => rfl) (sw hW hσ2))) hS _ (lv_sub hl [0, 1] rfl)
              · refine k_iinc (a := i) (lv' := [(1, .int (zi (i + 1))), (0, .ref (ad 0 0))]) hC dX8_watches_96 hl (k := 0) rfl (by decide) rfl (fun ls hl => ?_)
                refine lv_goto (tgt := 2) hx hb dX8_watches_99 (by decide) ?_
                have hl := Eq.mp (congrArg (fun z : Int => lv_has ls 3 [(1, .int (zi z)), (0, .ref (ad 0 0))]) (show (i + 1 : Int) = (i + 1) by omega)) hl
                exact ih_2 (fWatch τ i) (i + 1) (by omega) (by omega) (by rw [← fWs_step (by omega) (by omega)]; exact i2) (by have z := Inv_fWatch i3 (k := i) (by omega); rw [Int.add_assoc] at z; exact z) _ _ (by first | exact sw hW (by rw [hσ2, Int.add_zero, ups_id _ _ _ _ rfl, fWatch, if_neg (by omega), fWatch1, if_pos (by omega)]) | (rw [fWatch, if_neg (by omega), fWatch1, if_neg (by omega), if_neg (by omega)]; exact sw hW hσ2) | (rw [fWatch, if_neg (by omega), fWatch1, if_neg (by omega), if_pos (by omega), ups_comm _ (show (14 : Nat) ≠ 23 by decide)]; exact ghM (u := 14) (fun _ => rfl) (sw hW hσ2))) hS _ (lv_sub hl [0, 1] rfl)
            · have hvo : Inv N (M + i + 1) (ups (fWatch1 τ i) 13 i 0 1) := Inv_w13 i3 (by omega) (by omega) (by omega)
              obtain ⟨r, hr⟩ : ∃ z, z = near (ups (fWatch1 τ i) 13 i 0 1) i := ⟨_, rfl⟩
              have e27 : ups (fWatch1 τ i) 13 i 0 1 27 0 0 = τ 27 0 0 := by rw [ups_t _ (by decide), at1 (fWatch1_T τ i) (t := 27) (by decide)]
              have hr1 : r = -1 ∨ (0 ≤ r ∧ r < τ 27 0 0) := by
                have z := near_spec (σ := ups (fWatch1 τ i) 13 i 0 1) (by omega) i
                rw [← hr, e27] at z
                omega
              have hr2 : r ≠ i := by
                rw [hr]
                exact near_ne (fWatch1 τ i) i (by omega) (by rw [at1 (fWatch1_T τ i) (t := 27) (by decide)]; omega)
              refine lv_aload_n hx hb dX8_watches_52 rfl (lv_at hl 1 rfl) ?_
              refine mg_isOut hC hW hin_X8 hl_41 dX8_watches_53 ?_
              refine lv_iload_n hx hb dX8_watches_56 rfl (lv_at hl 0 rfl) ?_
              refine k_iconst hC dX8_watches_57 ?_
              refine ms_isOut hC hW (by omega) hS (by omega) dX8_watches_58 (fun H locs hW hS => ?_)
              obtain ⟨σ3, hσ3⟩ : ∃ z, z = ups σ2 13 i 0 1 := ⟨_, rfl⟩
              rw [← hσ3] at hW
              have loop_59 : ∀ (fuel : Nat) (υ : St), υ 17 i 0 < (fuel : Int) → (0 ≤ υ 17 i 0 ∧ υ 17 i 0 ≤ 6) → (fMove (υ 17 i 0).toNat υ i r = fOut (fWatch1 τ i) i) → (Inv N (M + i + 1) υ) → (near υ i = r) → (r = -1 ∨ (0 ≤ r ∧ r < υ 27 0 0)) → ∀ (H : Heap) (locs : List Loc), WP Dg mcnt ad (mE cA ad υ) H → va_S (WA mcnt ad s₀.heap.size) s₀.heap H locs → ∀ ls : Array Slot, lv_has ls 3 [(1, .int (zi i)), (0, .ref (ad 0 0))] → W pgm l env ({ frames := 2, cells := 0, slots := 0, locals := 44 } : Room) s₀ m₀ ([.ref (ad 0 0)] : List Value).toArray bel mth cod H locs 0 0 (MQ bel (va_Qv (fun _ : Unit => True) (gB Dg mcnt ad (mE cA ad (fWs 6 σ 0))) (WA mcnt ad s₀.heap.size)) ([.ref (ad 0 0)] : List Value).toArray s₀ 0 0 (WA mcnt ad s₀.heap.size)) (F0 m₀ 59 ls []) := by
                intro fuel
                induction fuel with
                | zero => intro υ hn j1 j2 j3 j4 j5; exact absurd hn (by omega)
                | succ fuel ih_59 =>
                  intro υ hn j1 j2 j3 j4 j5 H locs hW hS ls hl
                  refine lv_aload_n hx hb dX8_watches_59 rfl (lv_at hl 1 rfl) ?_
                  refine mg_playingMany hC hW hin_X8 hl_68 dX8_watches_60 ?_
                  refine lv_iload_n hx hb dX8_watches_63 rfl (lv_at hl 0 rfl) ?_
                  refine ma_playingMany hC hW (by omega) (v := υ 17 i 0) rfl dX8_watches_64 ?_
                  refine k_if_le (tgt := 96) hC dX8_watches_65 (by decide) (by omega) (fun c6 => ?_) (fun c6 => ?_)
                  · refine k_iinc (a := i) (lv' := [(1, .int (zi (i + 1))), (0, .ref (ad 0 0))]) hC dX8_watches_96 hl (k := 0) rfl (by decide) rfl (fun ls hl => ?_)
                    refine lv_goto (tgt := 2) hx hb dX8_watches_99 (by decide) ?_
                    have hl := Eq.mp (congrArg (fun z : Int => lv_has ls 3 [(1, .int (zi z)), (0, .ref (ad 0 0))]) (show (i + 1 : Int) = (i + 1) by omega)) hl
                    exact ih_2 (fWatch τ i) (i + 1) (by omega) (by omega) (by rw [← fWs_step (by omega) (by omega)]; exact i2) (by have z := Inv_fWatch i3 (k := i) (by omega); rw [Int.add_assoc] at z; exact z) _ _ (sw hW (by rw [fWatch, if_pos (by omega), ← j2, show (υ 17 i 0).toNat = 0 by omega]; rfl)) hS _ (lv_sub hl [0, 1] rfl)
                  · refine lv_aload_n hx hb dX8_watches_68 rfl (lv_at hl 1 rfl) ?_
                    refine mg_playing hC hW hin_X8 hl_65 dX8_watches_69 ?_
                    refine k_bipush hC dX8_watches_72 (by decide) ?_
                    refine lv_iload_n hx hb dX8_watches_74 rfl (lv_at hl 0 rfl) ?_
                    refine k_imul hC dX8_watches_75 ?_
                    refine ma_playing hC hW i 0 (by omega) (by omega) (by omega) (v := υ 16 i 0) rfl dX8_watches_76 ?_
                    obtain ⟨q1, q2, q3⟩ := row_in j3 (k := i) (j := 0) (by omega) (by omega)
                    have hB := j3.A
                    unfold IvA at hB
                    refine lv_istore_n (lv' := [(2, .int (zi (υ 16 i 0))), (1, .int (zi i)), (0, .ref (ad 0 0))]) hx hb dX8_watches_77 rfl hl (by decide) rfl (fun ls hl => ?_)
                    refine lv_aload_n hx hb dX8_watches_78 rfl (lv_at hl 2 rfl) ?_
                    refine lv_iload_n hx hb dX8_watches_79 rfl (lv_at hl 0 rfl) ?_
                    refine k_callV (As := [.int (zi (υ 16 i 0))]) (rest := []) hX hl.1 (n_leaves hI υ (υ 16 i 0) q1 j3.W (by omega) (fun z => (mem_rows j3 q1 z).2)) (cwV 1 hts gX8_watches_X8_leaves rfl rfl rfl (by decide +kernel) ⟨Nat.le_of_ble_eq_true rfl, Nat.le_of_ble_eq_true rfl⟩) (rc_M hC hW) hW hS ⟨Nat.zero_le _, Nat.zero_le _⟩ rfl rfl (Nat.le_of_ble_eq_true rfl) dX8_watches_80 (fun H locs hW hS _ _ => ?_)
                    obtain ⟨σ4, hσ4⟩ : ∃ z, z = gLeave υ (υ 16 i 0) := ⟨_, rfl⟩
                    rw [← hσ4] at hW
                    refine lv_aload_n hx hb dX8_watches_83 rfl (lv_at hl 2 rfl) ?_
                    refine lv_iload_n hx hb dX8_watches_84 rfl (lv_at hl 0 rfl) ?_
                    refine lv_aload_n hx hb dX8_watches_85 rfl (lv_at hl 2 rfl) ?_
                    refine lv_iload_n hx hb dX8_watches_86 rfl (lv_at hl 1 rfl) ?_
                    refine k_callI (As := [.int (zi i)]) (rest := [.int (zi (υ 16 i 0)), .ref (ad 0 0)]) hX hl.1 (n_nearest hI σ4 i (by rw [hσ4, at1 (gLeave_T _ _) (t := 27) (by decide)]; omega) (fun x a b => by rw [hσ4, at1 (gLeave_T _ _) (t := 13) (by decide)]; exact (j3.K x a b).2.1) (by omega)) (cwV 1 hts gX8_watches_X8_nearest rfl rfl rfl (by decide +kernel) ⟨Nat.le_of_ble_eq_true rfl, Nat.le_of_ble_eq_true rfl⟩) (rc_M hC hW) hW hS ⟨Nat.zero_le _, Nat.zero_le _⟩ rfl rfl (Nat.le_of_ble_eq_true rfl) dX8_watches_87 (fun H locs hW hS _ _ => ?_)
                    refine k_top0 (show (near σ4 i : Int) = r from (by rw [hσ4]; exact (near_T (gLeave_T _ _ 13 (by decide)) (gLeave_T _ _ 27 (by decide)) i).trans j4)) ?_
                    refine k_callV (As := [.int (zi (υ 16 i 0)), .int (zi r)]) (rest := []) hX hl.1 (n_comesTo hI σ4 (υ 16 i 0) r q1 (by omega) (fun z => by rw [hσ4]; exact gLeave_room j3 q1 (by omega))) (cwV 2 hts gX8_watches_X8_comesTo rfl rfl rfl (by decide +kernel) ⟨Nat.le_of_ble_eq_true rfl, Nat.le_of_ble_eq_true rfl⟩) (rc_M hC hW) hW hS ⟨Nat.zero_le _, Nat.zero_le _⟩ rfl rfl (Nat.le_of_ble_eq_true rfl) dX8_watches_90 (fun H locs hW hS _ _ => ?_)
                    obtain ⟨σ5, hσ5⟩ : ∃ z, z = fCome σ4 (υ 16 i 0) r := ⟨_, rfl⟩
                    rw [← hσ5] at hW
                    refine lv_goto (tgt := 59) hx hb dX8_watches_93 (by decide) ?_
                    have hb := fSettle_sz j3 q1 q3 (by omega) hr2
                    exact ih_59 (fSettle υ (υ 16 i 0) r) (by omega) (by rw [fSettle_sz j3 q1 q3 (by omega) hr2]; omega) (by rw [fSettle_sz j3 q1 q3 (by omega) hr2, ← fMove_s (by omega)]; exact j2) (Inv_fSettle j3 q1 q2 j5) ((near_T (fSettle_T _ _ _ 13 (by decide)) (fSettle_T _ _ _ 27 (by decide)) i).trans j4) (by rw [at1 (fSettle_T _ _ _) (t := 27) (by decide)]; exact j5) _ _ (sw hW (by rw [hσ5, hσ4, settle_g])) hS _ (lv_sub hl [1, 2] rfl)
              exact loop_59 (Int.toNat ((ups (fWatch1 τ i) 13 i 0 1) 17 i 0) + 1) (ups (fWatch1 τ i) 13 i 0 1) (by omega) (by rw [ups_t _ (by decide), at1 (fWatch1_T τ i) (t := 17) (by decide)]; exact (i3.W i (by omega) (by omega)).1) (by rw [ups_t _ (by decide), hr]; rfl) hvo hr.symm (by rw [ups_t _ (by decide), at1 (fWatch1_T τ i) (t := 27) (by decide)]; exact hr1) _ _ (by rw [show fWatch1 τ i = ups (ups τ 14 i 0 (τ 14 i 0 + 1)) 23 i 0 (τ 23 i 0 + 1) from (by unfold fWatch1; rw [if_neg (by omega), if_pos (by omega)]), ups_comm _ (show (14 : Nat) ≠ 23 by decide), ups_comm _ (show (14 : Nat) ≠ 13 by decide)]; exact ghM (u := 14) (fun _ => rfl) (sw hW (by rw [hσ3, hσ2]))) hS _ (lv_sub hl [0, 1] rfl)
  exact loop_2 (Int.toNat (6 - 0) + 1) σ 0 (by omega) (by omega) rfl (by rw [Int.add_zero]; exact hv) _ _ hW hS _ (lv_sub hl [0, 1] rfl)
set_option maxHeartbeats 1000000 in
set_option maxRecDepth 100000 in
theorem n_tick {l : Launch} {Dg : va_G} {cA : Nat → ClassId} {ad : Nat → Int → Nat} {oc : Nat → Nat} (hI : WI mcnt ad) {N M : Int} {τ : St} (σ : St) (n : Int) (hτ : τ = ups σ 31 0 0 0) (hv : Inv N M τ) (h1 : 1 ≤ n ∧ n ≤ 50) (hN : N ≤ 1000000) (hM : M ≤ 1000000) : GI l yX8_tick wsX8_tick ({ frames := 4, cells := 0, slots := 0, locals := 97 } : Room) Dg cA mcnt ad oc (mE cA ad σ) [.ref (ad 0 0), .int (zi n)] (fTick n.toNat (ups τ 30 0 0 0) 30 0 0) (mE cA ad (fTick n.toNat (ups τ 30 0 0 0))) := by
  intro sz
  refine g_ent (cc := cX8_tick) (maxL := 5) (ret := (some .int)) (by decide) rfl hI (Nat.le_of_ble_eq_true rfl) ?_
  intro pgm env s₀ m₀ bel mth cod hX hW hS hsz ls hl
  subst hsz
  have hC := hX.1
  have hx := hC.1
  have hb := hC.2.1
  have hts := hC.2.2.2.1
  have hl : lv_has ls 5 [(0, .ref (ad 0 0)), (1, .int (zi n))] := hl
  have hin_X8 : ∀ w ∈ wsX80, w ∈ wsX8_tick := by decide +kernel
  have hl_38 := hts (.fieldLink RX8 38 "KioskReelModel" "isFrozen" "[Z") (by decide +kernel)
  have hl_65 := hts (.fieldLink RX8 65 "KioskReelModel" "playing" "[I") (by decide +kernel)
  have hl_68 := hts (.fieldLink RX8 68 "KioskReelModel" "playingMany" "[I") (by decide +kernel)
  have hl_100 := hts (.fieldLink RX8 100 "KioskReelModel" "kiosks" "I") (by decide +kernel)
  have hl_179 := hts (.fieldLink RX8 179 "KioskReelModel" "shown" "I") (by decide +kernel)
  refine lv_aload_n hx hb dX8_tick_0 rfl (lv_at hl 0 rfl) ?_
  refine lv_iload_n hx hb dX8_tick_1 rfl (lv_at hl 1 rfl) ?_
  refine k_iconst hC dX8_tick_2 ?_
  refine k_bipush hC dX8_tick_3 (by decide) ?_
  refine k_callSI (As := [.int (zi n), .int (zi 1), .int (zi 50)]) (rest := [.ref (ad 0 0)]) hX hl.1 (n_isIn hI σ n 1 50 (by omega) (by omega) (by omega)) (cwS 3 hts gX8_tick_X8_isIn rfl rfl rfl (by decide +kernel) ⟨Nat.le_of_ble_eq_true rfl, Nat.le_of_ble_eq_true rfl⟩) hW hS ⟨Nat.zero_le _, Nat.zero_le _⟩ rfl rfl (Nat.le_of_ble_eq_true rfl) dX8_tick_5 (fun H locs hW hS _ _ => ?_)
  refine k_if_ne (tgt := 15) hC dX8_tick_8 (by decide) (by omega) (fun c1 => ?_) (fun c1 => absurd c1 (by omega))
  refine k_iconst hC dX8_tick_15 ?_
  refine k_iconst hC dX8_tick_16 ?_
  refine k_callI (As := [.int (zi 0), .int (zi 1)]) (rest := []) hX hl.1 (n_thr0 hI σ 1 (by omega)) (cwV 2 hts gX8_tick_X8_isThrown rfl rfl rfl (by decide +kernel) ⟨Nat.le_of_ble_eq_true rfl, Nat.le_of_ble_eq_true rfl⟩) (rc_M hC hW) hW hS ⟨Nat.zero_le _, Nat.zero_le _⟩ rfl rfl (Nat.le_of_ble_eq_true rfl) dX8_tick_17 (fun H locs hW hS _ _ => ?_)
  have hW : WP Dg mcnt ad (mE cA ad τ) _ := (sw hW hτ.symm)
  refine k_if_eq (tgt := 25) hC dX8_tick_20 (by decide) (by omega) (fun c2 => ?_) (fun c2 => absurd c2 (by omega))
  refine lv_aload_n hx hb dX8_tick_25 rfl (lv_at hl 0 rfl) ?_
  refine k_iconst hC dX8_tick_26 ?_
  refine mp_shown_f hC hW hin_X8 hl_179 hS dX8_tick_27 (fun H locs hW hS => ?_)
  obtain ⟨σ1, hσ1⟩ : ∃ z, z = ups τ 30 0 0 0 := ⟨_, rfl⟩
  rw [← hσ1] at hW
  refine k_iconst hC dX8_tick_30 ?_
  refine lv_istore_n (lv' := [(2, .int (zi 0)), (0, .ref (ad 0 0)), (1, .int (zi n))]) hx hb dX8_tick_31 rfl hl (by decide) rfl (fun ls hl => ?_)
  have loop_32 : ∀ (fuel : Nat) (υ : St) (t : Int), n - t < (fuel : Int) → (0 ≤ t ∧ t ≤ n) → (fTick (n - t).toNat υ = fTick n.toNat (ups τ 30 0 0 0)) → (Inv N (M + 6 * t) υ) → ∀ (H : Heap) (locs : List Loc), WP Dg mcnt ad (mE cA ad υ) H → va_S (WA mcnt ad s₀.heap.size) s₀.heap H locs → ∀ ls : Array Slot, lv_has ls 5 [(2, .int (zi t)), (0, .ref (ad 0 0)), (1, .int (zi n))] → W pgm l env ({ frames := 4, cells := 0, slots := 0, locals := 97 } : Room) s₀ m₀ ([.ref (ad 0 0), .int (zi n)] : List Value).toArray bel mth cod H locs 0 0 (MQ bel (va_Qi (fun (rr : Int32) (_ : Unit) => rr = zi (fTick n.toNat (ups τ 30 0 0 0) 30 0 0)) (gB Dg mcnt ad (mE cA ad (fTick n.toNat (ups τ 30 0 0 0)))) (WA mcnt ad s₀.heap.size)) ([.ref (ad 0 0), .int (zi n)] : List Value).toArray s₀ 0 0 (WA mcnt ad s₀.heap.size)) (F0 m₀ 32 ls []) := by
    intro fuel
    induction fuel with
    | zero => intro υ t hn i1 i2 i3; exact absurd hn (by omega)
    | succ fuel ih_32 =>
      intro υ t hn i1 i2 i3 H locs hW hS ls hl
      refine lv_iload_n hx hb dX8_tick_32 rfl (lv_at hl 0 rfl) ?_
      refine lv_iload_n hx hb dX8_tick_33 rfl (lv_at hl 2 rfl) ?_
      refine k_icmp_ge (tgt := 108) hC dX8_tick_34 (by decide) (by omega) (fun c3 => ?_) (fun c3 => ?_)
      · refine lv_aload_n hx hb dX8_tick_108 rfl (lv_at hl 1 rfl) ?_
        refine mg_shown_f hC hW hin_X8 hl_179 (v := υ 30 0 0) rfl dX8_tick_109 ?_
        have hW : WP Dg mcnt ad (mE cA ad (fTick n.toNat (ups τ 30 0 0 0))) _ := (sw hW (by rw [← i2, show (n - t).toNat = 0 by omega]; rfl))
        exact k_iret hX (by rw [← i2, show (n - t).toNat = 0 by omega]; rfl) hW hS dX8_tick_112
      · refine k_iconst hC dX8_tick_37 ?_
        refine lv_istore_n (lv' := [(3, .int (zi 0)), (2, .int (zi t)), (0, .ref (ad 0 0)), (1, .int (zi n))]) hx hb dX8_tick_38 rfl hl (by decide) rfl (fun ls hl => ?_)
        have loop_39 : ∀ (fuel : Nat) (χ : St) (i : Int), 6 - i < (fuel : Int) → (0 ≤ i ∧ i ≤ 6) → (fKs (6 - i).toNat χ i = fKs 6 υ 0) → (Inv N (M + 6 * t) χ) → ∀ (H : Heap) (locs : List Loc), WP Dg mcnt ad (mE cA ad χ) H → va_S (WA mcnt ad s₀.heap.size) s₀.heap H locs → ∀ ls : Array Slot, lv_has ls 5 [(3, .int (zi i)), (2, .int (zi t)), (0, .ref (ad 0 0)), (1, .int (zi n))] → W pgm l env ({ frames := 4, cells := 0, slots := 0, locals := 97 } : Room) s₀ m₀ ([.ref (ad 0 0), .int (zi n)] : List Value).toArray bel mth cod H locs 0 0 (MQ bel (va_Qi (fun (rr : Int32) (_ : Unit) => rr = zi (fTick n.toNat (ups τ 30 0 0 0) 30 0 0)) (gB Dg mcnt ad (mE cA ad (fTick n.toNat (ups τ 30 0 0 0)))) (WA mcnt ad s₀.heap.size)) ([.ref (ad 0 0), .int (zi n)] : List Value).toArray s₀ 0 0 (WA mcnt ad s₀.heap.size)) (F0 m₀ 39 ls []) := by
          intro fuel
          induction fuel with
          | zero => intro χ i hn k1 k2 k3; exact absurd hn (by omega)
          | succ fuel ih_39 =>
            intro χ i hn k1 k2 k3 H locs hW hS ls hl
            have hB := k3.A
            unfold IvA at hB
            refine lv_iload_n hx hb dX8_tick_39 rfl (lv_at hl 0 rfl) ?_
            refine lv_aload_n hx hb dX8_tick_40 rfl (lv_at hl 2 rfl) ?_
            refine mg_kiosks_f hC hW hin_X8 hl_100 (v := χ 27 0 0) rfl dX8_tick_41 ?_
            refine k_icmp_ge (tgt := 98) hC dX8_tick_44 (by decide) (by omega) (fun c4 => ?_) (fun c4 => ?_)
            · refine lv_aload_n hx hb dX8_tick_98 rfl (lv_at hl 2 rfl) ?_
              refine k_callV (As := []) (rest := []) hX hl.1 (n_watches hI χ k3 (by omega)) (cwV 0 hts gX8_tick_X8_watches rfl rfl rfl (by decide +kernel) ⟨Nat.le_of_ble_eq_true rfl, Nat.le_of_ble_eq_true rfl⟩) (rc_M hC hW) hW hS ⟨Nat.zero_le _, Nat.zero_le _⟩ rfl rfl (Nat.le_of_ble_eq_true rfl) dX8_tick_99 (fun H locs hW hS _ _ => ?_)
              obtain ⟨σ2, hσ2⟩ : ∃ z, z = fWs 6 χ 0 := ⟨_, rfl⟩
              rw [← hσ2] at hW
              refine k_iinc (a := t) (lv' := [(2, .int (zi (t + 1))), (3, .int (zi i)), (0, .ref (ad 0 0)), (1, .int (zi n))]) hC dX8_tick_102 hl (k := 1) rfl (by decide) rfl (fun ls hl => ?_)
              refine lv_goto (tgt := 32) hx hb dX8_tick_105 (by decide) ?_
              have hl := Eq.mp (congrArg (fun z : Int => lv_has ls 5 [(2, .int (zi z)), (3, .int (zi i)), (0, .ref (ad 0 0)), (1, .int (zi n))]) (show (t + 1 : Int) = (t + 1) by omega)) hl
              exact ih_32 (fTick1 υ) (t + 1) (by omega) (by omega) (by rw [← fTick_step (by omega)]; exact i2) (Inv_mono (Inv_fTick1 i3) (Int.le_refl _) (by omega)) _ _ (sw hW (by rw [hσ2, fTick1, ← k2, fKs_stop (by omega)])) hS _ (lv_sub hl [0, 2, 3] rfl)
            · refine k_iconst hC dX8_tick_47 ?_
              refine lv_istore (lv' := [(4, .int (zi 0)), (3, .int (zi i)), (2, .int (zi t)), (0, .ref (ad 0 0)), (1, .int (zi n))]) hx hb dX8_tick_48 hl (by decide) rfl (fun ls hl => ?_)
              have loop_50 : ∀ (fuel : Nat) (ψ : St) (k : Int), 6 - k < (fuel : Int) → (0 ≤ k ∧ k ≤ 6) → (fRow (6 - k).toNat ψ i k = fRow 6 χ i 0) → (Inv N (M + 6 * t) ψ) → (ψ 12 i 0 = χ 12 i 0) → (χ 12 i 0 ≠ 0 → ψ = χ) → ∀ (H : Heap) (locs : List Loc), WP Dg mcnt ad (mE cA ad ψ) H → va_S (WA mcnt ad s₀.heap.size) s₀.heap H locs → ∀ ls : Array Slot, lv_has ls 5 [(4, .int (zi k)), (3, .int (zi i)), (2, .int (zi t)), (0, .ref (ad 0 0)), (1, .int (zi n))] → W pgm l env ({ frames := 4, cells := 0, slots := 0, locals := 97 } : Room) s₀ m₀ ([.ref (ad 0 0), .int (zi n)] : List Value).toArray bel mth cod H locs 0 0 (MQ bel (va_Qi (fun (rr : Int32) (_ : Unit) => rr = zi (fTick n.toNat (ups τ 30 0 0 0) 30 0 0)) (gB Dg mcnt ad (mE cA ad (fTick n.toNat (ups τ 30 0 0 0)))) (WA mcnt ad s₀.heap.size)) ([.ref (ad 0 0), .int (zi n)] : List Value).toArray s₀ 0 0 (WA mcnt ad s₀.heap.size)) (F0 m₀ 50 ls []) := by
                intro fuel
                induction fuel with
                | zero => intro ψ k hn j1 j2 j3 j4 j5; exact absurd hn (by omega)
                | succ fuel ih_50 =>
                  intro ψ k hn j1 j2 j3 j4 j5 H locs hW hS ls hl
                  have hR := (j3.W i (by omega) (by omega)).1
                  have hK := (j3.K i (by omega) (by omega)).1
                  refine lv_iload hx hb dX8_tick_50 (lv_at hl 0 rfl) ?_
                  refine lv_aload_n hx hb dX8_tick_52 rfl (lv_at hl 3 rfl) ?_
                  refine mg_playingMany hC hW hin_X8 hl_68 dX8_tick_53 ?_
                  refine lv_iload_n hx hb dX8_tick_56 rfl (lv_at hl 1 rfl) ?_
                  refine ma_playingMany hC hW (by omega) (v := ψ 17 i 0) rfl dX8_tick_57 ?_
                  refine k_icmp_ge (tgt := 92) hC dX8_tick_58 (by decide) (by omega) (fun c5 => ?_) (fun c5 => ?_)
                  · refine k_iinc (a := i) (lv' := [(3, .int (zi (i + 1))), (4, .int (zi k)), (2, .int (zi t)), (0, .ref (ad 0 0)), (1, .int (zi n))]) hC dX8_tick_92 hl (k := 1) rfl (by decide) rfl (fun ls hl => ?_)
                    refine lv_goto (tgt := 39) hx hb dX8_tick_95 (by decide) ?_
                    have hl := Eq.mp (congrArg (fun z : Int => lv_has ls 5 [(3, .int (zi z)), (4, .int (zi k)), (2, .int (zi t)), (0, .ref (ad 0 0)), (1, .int (zi n))]) (show (i + 1 : Int) = (i + 1) by omega)) hl
                    exact ih_39 ψ (i + 1) (by omega) (by omega) (by have z := k2; rw [fKs_step (by omega) (by omega), ← rowM_end j2 j4 j5 (by omega)] at z; exact z) j3 _ _ hW hS _ (lv_sub hl [0, 2, 3, 4] rfl)
                  · refine lv_aload_n hx hb dX8_tick_61 rfl (lv_at hl 3 rfl) ?_
                    refine mg_isFrozen hC hW hin_X8 hl_38 dX8_tick_62 ?_
                    refine lv_iload_n hx hb dX8_tick_65 rfl (lv_at hl 1 rfl) ?_
                    refine ma_isFrozen hC hW (by omega) (v := ψ 12 i 0) rfl dX8_tick_66 ?_
                    refine k_if_ne (tgt := 92) hC dX8_tick_67 (by decide) (by omega) (fun c6 => ?_) (fun c6 => ?_)
                    · refine k_iinc (a := i) (lv' := [(3, .int (zi (i + 1))), (4, .int (zi k)), (2, .int (zi t)), (0, .ref (ad 0 0)), (1, .int (zi n))]) hC dX8_tick_92 hl (k := 1) rfl (by decide) rfl (fun ls hl => ?_)
                      refine lv_goto (tgt := 39) hx hb dX8_tick_95 (by decide) ?_
                      have hl := Eq.mp (congrArg (fun z : Int => lv_has ls 5 [(3, .int (zi z)), (4, .int (zi k)), (2, .int (zi t)), (0, .ref (ad 0 0)), (1, .int (zi n))]) (show (i + 1 : Int) = (i + 1) by omega)) hl
                      exact ih_39 ψ (i + 1) (by omega) (by omega) (by have z := k2; rw [fKs_step (by omega) (by omega), ← rowM_end j2 j4 j5 (by omega)] at z; exact z) j3 _ _ hW hS _ (lv_sub hl [0, 2, 3, 4] rfl)
                    · obtain ⟨q1, q2, q3⟩ := row_in j3 (k := i) (j := k) (by omega) (by omega)
                      refine lv_aload_n hx hb dX8_tick_70 rfl (lv_at hl 3 rfl) ?_
                      refine lv_aload_n hx hb dX8_tick_71 rfl (lv_at hl 3 rfl) ?_
                      refine mg_playing hC hW hin_X8 hl_65 dX8_tick_72 ?_
                      refine k_bipush hC dX8_tick_75 (by decide) ?_
                      refine lv_iload_n hx hb dX8_tick_77 rfl (lv_at hl 1 rfl) ?_
                      refine k_imul hC dX8_tick_78 ?_
                      refine lv_iload hx hb dX8_tick_79 (lv_at hl 0 rfl) ?_
                      refine k_iadd hC dX8_tick_81 ?_
                      refine ma_playing hC hW i k (by omega) (by omega) (by omega) (v := ψ 16 i k) rfl dX8_tick_82 ?_
                      refine k_callV (As := [.int (zi (ψ 16 i k))]) (rest := []) hX hl.1 (n_turn hI ψ (ψ 16 i k) j3 q1 q2 (by omega) hN) (cwV 1 hts gX8_tick_X8_turn rfl rfl rfl (by decide +kernel) ⟨Nat.le_of_ble_eq_true rfl, Nat.le_of_ble_eq_true rfl⟩) (rc_M hC hW) hW hS ⟨Nat.zero_le _, Nat.zero_le _⟩ rfl rfl (Nat.le_of_ble_eq_true rfl) dX8_tick_83 (fun H locs hW hS _ _ => ?_)
                      obtain ⟨σ3, hσ3⟩ : ∃ z, z = fTurn ψ (ψ 16 i k) := ⟨_, rfl⟩
                      rw [← hσ3] at hW
                      refine k_iinc (a := k) (lv' := [(4, .int (zi (k + 1))), (3, .int (zi i)), (2, .int (zi t)), (0, .ref (ad 0 0)), (1, .int (zi n))]) hC dX8_tick_86 hl (k := 0) rfl (by decide) rfl (fun ls hl => ?_)
                      refine lv_goto (tgt := 50) hx hb dX8_tick_89 (by decide) ?_
                      have hl := Eq.mp (congrArg (fun z : Int => lv_has ls 5 [(4, .int (zi z)), (3, .int (zi i)), (2, .int (zi t)), (0, .ref (ad 0 0)), (1, .int (zi n))]) (show (k + 1 : Int) = (k + 1) by omega)) hl
                      exact ih_50 σ3 (k + 1) (by omega) (by omega) (by rw [hσ3, ← fRow_step (by omega) (by omega)]; exact j2) (by rw [hσ3]; exact Inv_fTurn j3 q1 q2) (by rw [hσ3, at1 (fTurn_T _ _) (t := 12) (by decide)]; exact j4) (fun z => absurd (by omega) z) _ _ hW hS _ (lv_sub hl [0, 1, 2, 3, 4] rfl)
              exact loop_50 (Int.toNat (6 - 0) + 1) χ 0 (by omega) (by omega) rfl k3 rfl (fun _ => rfl) _ _ hW hS _ (lv_sub hl [0, 1, 2, 3, 4] rfl)
        exact loop_39 (Int.toNat (6 - 0) + 1) υ 0 (by omega) (by omega) rfl i3 _ _ hW hS _ (lv_sub hl [0, 1, 2, 3] rfl)
  exact loop_32 (Int.toNat (n - 0) + 1) (ups τ 30 0 0 0) 0 (by omega) (by omega) (by rw [Int.sub_zero]) (Inv_o30 (Inv_mono hv (Int.le_refl _) (by omega))) _ _ (sw hW hσ1) hS _ (lv_sub hl [0, 1, 2] rfl)
end M8
