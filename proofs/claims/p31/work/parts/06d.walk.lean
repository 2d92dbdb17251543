section M4
set_option maxHeartbeats 4000000 in
set_option maxRecDepth 100000 in
theorem m_playOneTick {l : Launch} {Dg : va_G} {cA : Nat → ClassId} {ad : Nat → Int → Nat} {oc : Nat → Nat} (hI : WI ccnt ad) {N M : Int} (σ : St) (hv : Inv N M σ) (hN : N ≤ 1000000) : GI l yX7_playOneTick wsX7_playOneTick ({ frames := 5, cells := 0, slots := 0, locals := 119 } : Room) Dg cA ccnt ad oc (cE cA ad σ) [.ref (ad 0 0)] (fKs 6 σ 0 30 0 0 - σ 30 0 0) (cE cA ad (fKs 6 σ 0)) := by
  intro sz
  refine g_ent (cc := cX7_playOneTick) (maxL := 5) (ret := (some .int)) (by decide) rfl hI (Nat.le_of_ble_eq_true rfl) ?_
  intro pgm env s₀ m₀ bel mth cod hX hW hS hsz ls hl
  subst hsz
  have hC := hX.1
  have hx := hC.1
  have hb := hC.2.1
  have hts := hC.2.2.2.1
  have hl : lv_has ls 5 [(0, .ref (ad 0 0))] := hl
  have hin_X1 : ∀ w ∈ wsX10, w ∈ wsX7_playOneTick := by decide +kernel
  have hin_X4 : ∀ w ∈ wsX40, w ∈ wsX7_playOneTick := by decide +kernel
  have hin_X7 : ∀ w ∈ wsX70, w ∈ wsX7_playOneTick := by decide +kernel
  have hl_17 := hts (.fieldLink RX7 17 "KioskReel" "kiosks" "[LKioskReel$Kiosk;") (by decide +kernel)
  have hl_23 := hts (.fieldLink RX7 23 "KioskReel" "players" "[LKioskReel$Player;") (by decide +kernel)
  have hl_99 := hts (.fieldLink RX7 99 "KioskReel" "kioskCount" "I") (by decide +kernel)
  have hl_149 := hts (.fieldLink RX7 149 "KioskReel$Kiosk" "frozen" "Z") (by decide +kernel)
  have hl_161 := hts (.fieldLink RX7 161 "KioskReel$Kiosk" "playing" "LKioskReel$PlayerRow;") (by decide +kernel)
  have hl_164 := hts (.fieldLink RX7 164 "KioskReel$PlayerRow" "size" "I") (by decide +kernel)
  have hl_170 := hts (.fieldLink RX7 170 "KioskReel$PlayerRow" "members" "[I") (by decide +kernel)
  refine k_iconst hC dX7_playOneTick_0 ?_
  refine lv_istore_n (lv' := [(1, .int (zi 0)), (0, .ref (ad 0 0))]) hx hb dX7_playOneTick_1 rfl hl (by decide) rfl (fun ls hl => ?_)
  refine k_iconst hC dX7_playOneTick_2 ?_
  refine lv_istore_n (lv' := [(2, .int (zi 0)), (1, .int (zi 0)), (0, .ref (ad 0 0))]) hx hb dX7_playOneTick_3 rfl hl (by decide) rfl (fun ls hl => ?_)
  have loop_4 : ∀ (fuel : Nat) (τ : St) (i : Int) (sh : Int), 6 - i < (fuel : Int) → (0 ≤ i ∧ i ≤ 6) → (fKs (6 - i).toNat τ i = fKs 6 σ 0) → (Inv N M τ) → (sh = τ 30 0 0 - σ 30 0 0) → ∀ (H : Heap) (locs : List Loc), WP Dg ccnt ad (cE cA ad τ) H → va_S (WA ccnt ad s₀.heap.size) s₀.heap H locs → ∀ ls : Array Slot, lv_has ls 5 [(2, .int (zi i)), (1, .int (zi sh)), (0, .ref (ad 0 0))] → W pgm l env ({ frames := 5, cells := 0, slots := 0, locals := 119 } : Room) s₀ m₀ ([.ref (ad 0 0)] : List Value).toArray bel mth cod H locs 0 0 (MQ bel (va_Qi (fun (rr : Int32) (_ : Unit) => rr = zi (fKs 6 σ 0 30 0 0 - σ 30 0 0)) (gB Dg ccnt ad (cE cA ad (fKs 6 σ 0))) (WA ccnt ad s₀.heap.size)) ([.ref (ad 0 0)] : List Value).toArray s₀ 0 0 (WA ccnt ad s₀.heap.size)) (F0 m₀ 4 ls []) := by
    intro fuel
    induction fuel with
    | zero => intro τ i sh hn i1 i2 i3 i4; exact absurd hn (by omega)
    | succ fuel ih_4 =>
      intro τ i sh hn i1 i2 i3 i4 H locs hW hS ls hl
      have hA := i3.A
      unfold IvA at hA
      refine lv_iload_n hx hb dX7_playOneTick_4 rfl (lv_at hl 0 rfl) ?_
      refine lv_aload_n hx hb dX7_playOneTick_5 rfl (lv_at hl 2 rfl) ?_
      refine cg_KR_kioskCount hC hW hin_X7 hl_99 (v := τ 27 0 0) rfl dX7_playOneTick_6 ?_
      refine k_icmp_ge (tgt := 84) hC dX7_playOneTick_9 (by decide) (by omega) (fun c1 => ?_) (fun c1 => ?_)
      · refine lv_iload_n hx hb dX7_playOneTick_84 rfl (lv_at hl 1 rfl) ?_
        have hW : WP Dg ccnt ad (cE cA ad (fKs 6 σ 0)) _ := (sw hW (by rw [← i2, fKs_stop (by omega)]))
        exact k_iret hX (by rw [← i2, fKs_stop (by omega)]; exact i4) hW hS dX7_playOneTick_85
      · refine lv_aload_n hx hb dX7_playOneTick_12 rfl (lv_at hl 2 rfl) ?_
        refine cg_KR_kiosks hC hW hin_X7 hl_17 dX7_playOneTick_13 ?_
        refine lv_iload_n hx hb dX7_playOneTick_16 rfl (lv_at hl 0 rfl) ?_
        refine ca_kiosks hC hW (by omega) dX7_playOneTick_17 ?_
        have hK := i3.K i (by omega) (by omega)
        refine cg_Kiosk_frozen hC hW hin_X1 hl_149 (by omega) (v := τ 12 i 0) rfl dX7_playOneTick_18 ?_
        refine k_if_ne (tgt := 78) hC dX7_playOneTick_21 (by decide) (by omega) (fun c2 => ?_) (fun c2 => ?_)
        · refine k_iinc (a := i) (lv' := [(2, .int (zi (i + 1))), (1, .int (zi sh)), (0, .ref (ad 0 0))]) hC dX7_playOneTick_78 hl (k := 0) rfl (by decide) rfl (fun ls hl => ?_)
          refine lv_goto (tgt := 4) hx hb dX7_playOneTick_81 (by decide) ?_
          have hl := Eq.mp (congrArg (fun z : Int => lv_has ls 5 [(2, .int (zi z)), (1, .int (zi sh)), (0, .ref (ad 0 0))]) (show (i + 1 : Int) = (i + 1) by omega)) hl
          exact ih_4 τ (i + 1) sh (by omega) (by omega) (by first | (have z := i2; rw [fKs_step (by omega) (by omega), if_pos (by omega), ← j3, fRow_stop (by omega)] at z; exact z) | (have z := i2; rw [fKs_step (by omega) (by omega), if_neg (by omega)] at z; exact z)) (by assumption) (by omega) _ _ hW hS _ (lv_sub hl [0, 1, 2] rfl)
        · refine lv_aload_n hx hb dX7_playOneTick_24 rfl (lv_at hl 2 rfl) ?_
          refine cg_KR_kiosks hC hW hin_X7 hl_17 dX7_playOneTick_25 ?_
          refine lv_iload_n hx hb dX7_playOneTick_28 rfl (lv_at hl 0 rfl) ?_
          refine ca_kiosks hC hW (by omega) dX7_playOneTick_29 ?_
          refine cg_Kiosk_playing hC hW hin_X1 hl_161 (by omega) dX7_playOneTick_30 ?_
          refine lv_astore_n (lv' := [(3, .ref (ad 18 i)), (2, .int (zi i)), (1, .int (zi sh)), (0, .ref (ad 0 0))]) hx hb dX7_playOneTick_33 rfl hl (by decide) rfl (fun ls hl => ?_)
          refine k_iconst hC dX7_playOneTick_34 ?_
          refine lv_istore (lv' := [(4, .int (zi 0)), (3, .ref (ad 18 i)), (2, .int (zi i)), (1, .int (zi sh)), (0, .ref (ad 0 0))]) hx hb dX7_playOneTick_35 hl (by decide) rfl (fun ls hl => ?_)
          have loop_37 : ∀ (fuel : Nat) (υ : St) (k : Int) (sj : Int), 6 - k < (fuel : Int) → (0 ≤ k ∧ k ≤ 6) → (fRow (6 - k).toNat υ i k = fRow 6 τ i 0) → (Inv N M υ) → (sj = υ 30 0 0 - σ 30 0 0) → ∀ (H : Heap) (locs : List Loc), WP Dg ccnt ad (cE cA ad υ) H → va_S (WA ccnt ad s₀.heap.size) s₀.heap H locs → ∀ ls : Array Slot, lv_has ls 5 [(4, .int (zi k)), (3, .ref (ad 18 i)), (2, .int (zi i)), (1, .int (zi sj)), (0, .ref (ad 0 0))] → W pgm l env ({ frames := 5, cells := 0, slots := 0, locals := 119 } : Room) s₀ m₀ ([.ref (ad 0 0)] : List Value).toArray bel mth cod H locs 0 0 (MQ bel (va_Qi (fun (rr : Int32) (_ : Unit) => rr = zi (fKs 6 σ 0 30 0 0 - σ 30 0 0)) (gB Dg ccnt ad (cE cA ad (fKs 6 σ 0))) (WA ccnt ad s₀.heap.size)) ([.ref (ad 0 0)] : List Value).toArray s₀ 0 0 (WA ccnt ad s₀.heap.size)) (F0 m₀ 37 ls []) := by
            intro fuel
            induction fuel with
            | zero => intro υ k sj hn j1 j3 j4 j5; exact absurd hn (by omega)
            | succ fuel ih_37 =>
              intro υ k sj hn j1 j3 j4 j5 H locs hW hS ls hl
              have hR := (j4.W i (by omega) (by omega)).1
              refine lv_iload hx hb dX7_playOneTick_37 (lv_at hl 0 rfl) ?_
              refine lv_aload_n hx hb dX7_playOneTick_39 rfl (lv_at hl 1 rfl) ?_
              refine cg_Row_size hC hW hin_X4 hl_164 (by omega) (v := υ 17 i 0) rfl dX7_playOneTick_40 ?_
              refine k_icmp_ge (tgt := 78) hC dX7_playOneTick_43 (by decide) (by omega) (fun c3 => ?_) (fun c3 => ?_)
              · refine k_iinc (a := i) (lv' := [(2, .int (zi (i + 1))), (4, .int (zi k)), (3, .ref (ad 18 i)), (1, .int (zi sj)), (0, .ref (ad 0 0))]) hC dX7_playOneTick_78 hl (k := 2) rfl (by decide) rfl (fun ls hl => ?_)
                refine lv_goto (tgt := 4) hx hb dX7_playOneTick_81 (by decide) ?_
                have hl := Eq.mp (congrArg (fun z : Int => lv_has ls 5 [(2, .int (zi z)), (4, .int (zi k)), (3, .ref (ad 18 i)), (1, .int (zi sj)), (0, .ref (ad 0 0))]) (show (i + 1 : Int) = (i + 1) by omega)) hl
                exact ih_4 υ (i + 1) sj (by omega) (by omega) (by first | (have z := i2; rw [fKs_step (by omega) (by omega), if_pos (by omega), ← j3, fRow_stop (by omega)] at z; exact z) | (have z := i2; rw [fKs_step (by omega) (by omega), if_neg (by omega)] at z; exact z)) (by assumption) (by omega) _ _ hW hS _ (lv_sub hl [0, 3, 4] rfl)
              · obtain ⟨q1, q2, q3⟩ := row_in j4 (k := i) (j := k) (by omega) (by omega)
                refine lv_iload_n hx hb dX7_playOneTick_46 rfl (lv_at hl 3 rfl) ?_
                refine lv_aload_n hx hb dX7_playOneTick_47 rfl (lv_at hl 4 rfl) ?_
                refine lv_aload_n hx hb dX7_playOneTick_48 rfl (lv_at hl 4 rfl) ?_
                refine cg_KR_players hC hW hin_X7 hl_23 dX7_playOneTick_49 ?_
                refine lv_aload_n hx hb dX7_playOneTick_52 rfl (lv_at hl 1 rfl) ?_
                refine cg_Row_members hC hW hin_X4 hl_170 (by omega) dX7_playOneTick_53 ?_
                refine lv_iload hx hb dX7_playOneTick_56 (lv_at hl 0 rfl) ?_
                refine ca_members hC hW (by omega) (by omega) (v := υ 16 i k) rfl dX7_playOneTick_58 ?_
                refine ca_players hC hW (by omega) dX7_playOneTick_59 ?_
                refine lv_aload_n hx hb dX7_playOneTick_60 rfl (lv_at hl 1 rfl) ?_
                refine cg_Row_members hC hW hin_X4 hl_170 (by omega) dX7_playOneTick_61 ?_
                refine lv_iload hx hb dX7_playOneTick_64 (lv_at hl 0 rfl) ?_
                refine ca_members hC hW (by omega) (by omega) (v := υ 16 i k) rfl dX7_playOneTick_66 ?_
                refine k_callI (As := [.ref (ad 10 (υ 16 i k)), .int (zi (υ 16 i k))]) (rest := [.int (zi sj)]) hX hl.1 (m_takeTurn hI υ (υ 16 i k) j4 q1 q2 (by omega) hN) (cwV 2 hts gX7_playOneTick_X7_takeTurn rfl rfl rfl (by decide +kernel) ⟨Nat.le_of_ble_eq_true rfl, Nat.le_of_ble_eq_true rfl⟩) (rc_KR hC hW) hW hS ⟨Nat.zero_le _, Nat.zero_le _⟩ rfl rfl (Nat.le_of_ble_eq_true rfl) dX7_playOneTick_67 (fun H locs hW hS _ _ => ?_)
                obtain ⟨σ1, hσ1⟩ : ∃ z, z = fTurn υ (υ 16 i k) := ⟨_, rfl⟩
                rw [← hσ1] at hW
                refine k_iadd hC dX7_playOneTick_70 ?_
                refine lv_istore_n (lv' := [(1, .int (zi (sj + (fTurn υ (υ 16 i k) 30 0 0 - υ 30 0 0)))), (4, .int (zi k)), (3, .ref (ad 18 i)), (2, .int (zi i)), (0, .ref (ad 0 0))]) hx hb dX7_playOneTick_71 rfl hl (by decide) rfl (fun ls hl => ?_)
                refine k_iinc (a := k) (lv' := [(4, .int (zi (k + 1))), (1, .int (zi (sj + (fTurn υ (υ 16 i k) 30 0 0 - υ 30 0 0)))), (3, .ref (ad 18 i)), (2, .int (zi i)), (0, .ref (ad 0 0))]) hC dX7_playOneTick_72 hl (k := 1) rfl (by decide) rfl (fun ls hl => ?_)
                refine lv_goto (tgt := 37) hx hb dX7_playOneTick_75 (by decide) ?_
                have hl := Eq.mp (congrArg (fun z : Int => lv_has ls 5 [(4, .int (zi z)), (1, .int (zi (sj + (fTurn υ (υ 16 i k) 30 0 0 - υ 30 0 0)))), (3, .ref (ad 18 i)), (2, .int (zi i)), (0, .ref (ad 0 0))]) (show (k + 1 : Int) = (k + 1) by omega)) hl
                have hl := Eq.mp (congrArg (fun z : Int => lv_has ls 5 [(4, .int (zi (k + 1))), (1, .int (zi z)), (3, .ref (ad 18 i)), (2, .int (zi i)), (0, .ref (ad 0 0))]) (show (sj + (fTurn υ (υ 16 i k) 30 0 0 - υ 30 0 0) : Int) = (sj + (fTurn υ (υ 16 i k) 30 0 0 - υ 30 0 0)) by omega)) hl
                exact ih_37 σ1 (k + 1) (sj + (fTurn υ (υ 16 i k) 30 0 0 - υ 30 0 0)) (by omega) (by omega) (by rw [hσ1, ← fRow_step (by omega) (by omega)]; exact j3) (by rw [hσ1]; exact Inv_fTurn j4 q1 q2) (by rw [hσ1]; omega) _ _ hW hS _ (lv_sub hl [0, 2, 3, 1, 4] rfl)
          exact loop_37 (Int.toNat (6 - 0) + 1) τ 0 sh (by omega) (by omega) rfl i3 i4 _ _ hW hS _ (lv_sub hl [0, 1, 2, 3, 4] rfl)
  exact loop_4 (Int.toNat (6 - 0) + 1) σ 0 0 (by omega) (by omega) rfl hv (by omega) _ _ hW hS _ (lv_sub hl [0, 1, 2] rfl)
set_option maxHeartbeats 4000000 in
set_option maxRecDepth 100000 in
theorem m_makeOut {l : Launch} {Dg : va_G} {cA : Nat → ClassId} {ad : Nat → Int → Nat} {oc : Nat → Nat} (hI : WI ccnt ad) {N M : Int} (σ : St) (k : Int) (hk : 0 ≤ k ∧ k < σ 27 0 0) (hv2 : Inv N M (ups σ 13 k 0 1)) : GV l yX7_makeOut wsX7_makeOut ({ frames := 3, cells := 0, slots := 0, locals := 67 } : Room) Dg cA ccnt ad oc (cE cA ad σ) [.ref (ad 0 0), .int (zi k)] (cE cA ad (fOut σ k)) := by
  intro sz
  refine g_ent (cc := cX7_makeOut) (maxL := 6) (ret := none) (by decide) rfl hI (Nat.le_of_ble_eq_true rfl) ?_
  intro pgm env s₀ m₀ bel mth cod hX hW hS hsz ls hl
  subst hsz
  have hC := hX.1
  have hx := hC.1
  have hb := hC.2.1
  have hts := hC.2.2.2.1
  have hl : lv_has ls 6 [(0, .ref (ad 0 0)), (1, .int (zi k))] := hl
  have hin_X1 : ∀ w ∈ wsX10, w ∈ wsX7_makeOut := by decide +kernel
  have hin_X4 : ∀ w ∈ wsX40, w ∈ wsX7_makeOut := by decide +kernel
  have hin_X7 : ∀ w ∈ wsX70, w ∈ wsX7_makeOut := by decide +kernel
  have hl_17 := hts (.fieldLink RX7 17 "KioskReel" "kiosks" "[LKioskReel$Kiosk;") (by decide +kernel)
  have hl_152 := hts (.fieldLink RX7 152 "KioskReel$Kiosk" "out" "Z") (by decide +kernel)
  have hl_161 := hts (.fieldLink RX7 161 "KioskReel$Kiosk" "playing" "LKioskReel$PlayerRow;") (by decide +kernel)
  have hl_164 := hts (.fieldLink RX7 164 "KioskReel$PlayerRow" "size" "I") (by decide +kernel)
  have hl_170 := hts (.fieldLink RX7 170 "KioskReel$PlayerRow" "members" "[I") (by decide +kernel)
  have hA := hv2.A
  unfold IvA at hA
  simp (decide := true) only [ups_t] at hA
  have hR := (hv2.W k (by omega) (by omega)).1
  rw [ups_t _ (by decide)] at hR
  refine lv_aload_n hx hb dX7_makeOut_0 rfl (lv_at hl 0 rfl) ?_
  refine cg_KR_kiosks hC hW hin_X7 hl_17 dX7_makeOut_1 ?_
  refine lv_iload_n hx hb dX7_makeOut_4 rfl (lv_at hl 1 rfl) ?_
  refine ca_kiosks hC hW (by omega) dX7_makeOut_5 ?_
  refine k_iconst hC dX7_makeOut_6 ?_
  refine cp_Kiosk_out hC hW hin_X1 hl_152 (by omega) hS (by omega) dX7_makeOut_7 (fun H locs hW hS => ?_)
  obtain ⟨σ1, hσ1⟩ : ∃ z, z = ups σ 13 k 0 1 := ⟨_, rfl⟩
  rw [← hσ1] at hW
  refine lv_aload_n hx hb dX7_makeOut_10 rfl (lv_at hl 0 rfl) ?_
  refine lv_iload_n hx hb dX7_makeOut_11 rfl (lv_at hl 1 rfl) ?_
  refine k_callI (As := [.int (zi k)]) (rest := []) hX hl.1 (m_nearest hI σ1 k (by rw [hσ1]; exact hv2) (by rw [hσ1, ups_t _ (by decide)]; exact hk)) (cwV 1 hts gX7_makeOut_X7_nearestNotOut rfl rfl rfl (by decide +kernel) ⟨Nat.le_of_ble_eq_true rfl, Nat.le_of_ble_eq_true rfl⟩) (rc_KR hC hW) hW hS ⟨Nat.zero_le _, Nat.zero_le _⟩ rfl rfl (Nat.le_of_ble_eq_true rfl) dX7_makeOut_12 (fun H locs hW hS _ _ => ?_)
  obtain ⟨r, hr⟩ : ∃ z : Int, z = near σ1 k := ⟨_, rfl⟩
  rw [← hr]
  rw [hσ1] at hr
  have hr1 : r = -1 ∨ (0 ≤ r ∧ r < σ 27 0 0) := by
    have z := near_spec (σ := ups σ 13 k 0 1) (by rw [ups_t _ (by decide)]; omega) k
    rw [← hr, ups_t _ (by decide)] at z
    omega
  have hr2 : r ≠ k := by rw [hr]; exact near_ne σ k hk.1 (by omega)
  refine lv_istore_n (lv' := [(2, .int (zi r)), (0, .ref (ad 0 0)), (1, .int (zi k))]) hx hb dX7_makeOut_15 rfl hl (by decide) rfl (fun ls hl => ?_)
  refine lv_aload_n hx hb dX7_makeOut_16 rfl (lv_at hl 1 rfl) ?_
  refine cg_KR_kiosks hC hW hin_X7 hl_17 dX7_makeOut_17 ?_
  refine lv_iload_n hx hb dX7_makeOut_20 rfl (lv_at hl 2 rfl) ?_
  refine ca_kiosks hC hW (by omega) dX7_makeOut_21 ?_
  refine cg_Kiosk_playing hC hW hin_X1 hl_161 (by omega) dX7_makeOut_22 ?_
  refine lv_astore_n (lv' := [(3, .ref (ad 18 k)), (2, .int (zi r)), (0, .ref (ad 0 0)), (1, .int (zi k))]) hx hb dX7_makeOut_25 rfl hl (by decide) rfl (fun ls hl => ?_)
  refine lv_aload_n hx hb dX7_makeOut_26 rfl (lv_at hl 0 rfl) ?_
  refine cg_Row_size hC hW hin_X4 hl_164 (by omega) (v := σ 17 k 0) (by rw [hσ1, ups_t _ (by decide)]) dX7_makeOut_27 ?_
  refine lv_istore (lv' := [(4, .int (zi (σ 17 k 0))), (3, .ref (ad 18 k)), (2, .int (zi r)), (0, .ref (ad 0 0)), (1, .int (zi k))]) hx hb dX7_makeOut_30 hl (by decide) rfl (fun ls hl => ?_)
  refine k_iconst hC dX7_makeOut_32 ?_
  refine lv_istore (lv' := [(5, .int (zi 0)), (4, .int (zi (σ 17 k 0))), (3, .ref (ad 18 k)), (2, .int (zi r)), (0, .ref (ad 0 0)), (1, .int (zi k))]) hx hb dX7_makeOut_33 hl (by decide) rfl (fun ls hl => ?_)
  have loop_35 : ∀ (fuel : Nat) (τ : St) (i : Int), σ 17 k 0 - i < (fuel : Int) → (0 ≤ i ∧ i ≤ σ 17 k 0) → (fMove (σ 17 k 0 - i).toNat τ k r = fOut σ k) → (Inv N M τ) → (τ 17 k 0 = σ 17 k 0 - i) → (τ 27 0 0 = σ 27 0 0) → ∀ (H : Heap) (locs : List Loc), WP Dg ccnt ad (cE cA ad τ) H → va_S (WA ccnt ad s₀.heap.size) s₀.heap H locs → ∀ ls : Array Slot, lv_has ls 6 [(5, .int (zi i)), (4, .int (zi (σ 17 k 0))), (3, .ref (ad 18 k)), (2, .int (zi r)), (0, .ref (ad 0 0)), (1, .int (zi k))] → W pgm l env ({ frames := 3, cells := 0, slots := 0, locals := 67 } : Room) s₀ m₀ ([.ref (ad 0 0), .int (zi k)] : List Value).toArray bel mth cod H locs 0 0 (MQ bel (va_Qv (fun _ : Unit => True) (gB Dg ccnt ad (cE cA ad (fOut σ k))) (WA ccnt ad s₀.heap.size)) ([.ref (ad 0 0), .int (zi k)] : List Value).toArray s₀ 0 0 (WA ccnt ad s₀.heap.size)) (F0 m₀ 35 ls []) := by
    intro fuel
    induction fuel with
    | zero => intro τ i hn i1 i2 i3 i4 i5; exact absurd hn (by omega)
    | succ fuel ih_35 =>
      intro τ i hn i1 i2 i3 i4 i5 H locs hW hS ls hl
      refine lv_iload hx hb dX7_makeOut_35 (lv_at hl 0 rfl) ?_
      refine lv_iload hx hb dX7_makeOut_37 (lv_at hl 1 rfl) ?_
      refine k_icmp_ge (tgt := 59) hC dX7_makeOut_39 (by decide) (by omega) (fun c1 => ?_) (fun c1 => ?_)
      · have hW : WP Dg ccnt ad (cE cA ad (fOut σ k)) _ := (sw hW (by rw [← i2, show (σ 17 k 0 - i).toNat = 0 by omega]; rfl))
        exact k_vret hX hW hS dX7_makeOut_59
      · obtain ⟨q1, q2, q3⟩ := row_in i3 (k := k) (j := 0) (by omega) (by omega)
        refine lv_aload_n hx hb dX7_makeOut_42 rfl (lv_at hl 4 rfl) ?_
        refine lv_aload_n hx hb dX7_makeOut_43 rfl (lv_at hl 2 rfl) ?_
        refine cg_Row_members hC hW hin_X4 hl_170 (by omega) dX7_makeOut_44 ?_
        refine k_iconst hC dX7_makeOut_47 ?_
        refine ca_members hC hW (by omega) (by omega) (v := τ 16 k 0) rfl dX7_makeOut_48 ?_
        refine lv_iload_n hx hb dX7_makeOut_49 rfl (lv_at hl 3 rfl) ?_
        refine k_callV (As := [.int (zi (τ 16 k 0)), .int (zi r)]) (rest := []) hX hl.1 (m_settle hI τ (τ 16 k 0) r i3 q1 (by omega)) (cwV 2 hts gX7_makeOut_X7_settle rfl rfl rfl (by decide +kernel) ⟨Nat.le_of_ble_eq_true rfl, Nat.le_of_ble_eq_true rfl⟩) (rc_KR hC hW) hW hS ⟨Nat.zero_le _, Nat.zero_le _⟩ rfl rfl (Nat.le_of_ble_eq_true rfl) dX7_makeOut_50 (fun H locs hW hS _ _ => ?_)
        obtain ⟨σ2, hσ2⟩ : ∃ z, z = fSettle τ (τ 16 k 0) r := ⟨_, rfl⟩
        rw [← hσ2] at hW
        refine k_iinc (a := i) (lv' := [(5, .int (zi (i + 1))), (4, .int (zi (σ 17 k 0))), (3, .ref (ad 18 k)), (2, .int (zi r)), (0, .ref (ad 0 0)), (1, .int (zi k))]) hC dX7_makeOut_53 hl (k := 0) rfl (by decide) rfl (fun ls hl => ?_)
        refine lv_goto (tgt := 35) hx hb dX7_makeOut_56 (by decide) ?_
        have hl := Eq.mp (congrArg (fun z : Int => lv_has ls 6 [(5, .int (zi z)), (4, .int (zi (σ 17 k 0))), (3, .ref (ad 18 k)), (2, .int (zi r)), (0, .ref (ad 0 0)), (1, .int (zi k))]) (show (i + 1 : Int) = (i + 1) by omega)) hl
        exact ih_35 σ2 (i + 1) (by omega) (by omega) (by rw [hσ2, ← fMove_step (by omega)]; exact i2) (by rw [hσ2]; exact Inv_fSettle i3 q1 q2 (by omega)) (by rw [hσ2, fSettle_sz i3 q1 q3 (by omega) hr2]; omega) (by rw [hσ2, at1 (fSettle_T _ _ _) (t := 27) (by decide)]; omega) _ _ hW hS _ (lv_sub hl [0, 1, 2, 3, 4, 5] rfl)
  exact loop_35 (Int.toNat (σ 17 k 0 - 0) + 1) σ1 0 (by omega) (by omega) (by rw [hσ1, hr, fOut, Int.sub_zero]) (by rw [hσ1]; exact hv2) (by rw [hσ1, ups_t _ (by decide)]; omega) (by rw [hσ1, ups_t _ (by decide)]) _ _ hW hS _ (lv_sub hl [0, 1, 2, 3, 4, 5] rfl)
set_option maxHeartbeats 4000000 in
set_option maxRecDepth 100000 in
theorem m_watch {l : Launch} {Dg : va_G} {cA : Nat → ClassId} {ad : Nat → Int → Nat} {oc : Nat → Nat} (hI : WI ccnt ad) {N M : Int} (σ : St) (hv : Inv N M σ) : GV l yX7_watchFrozenKiosks wsX7_watchFrozenKiosks ({ frames := 4, cells := 0, slots := 0, locals := 92 } : Room) Dg cA ccnt ad oc (cE cA ad σ) [.ref (ad 0 0)] (cE cA ad (fWs 6 σ 0)) := by
  intro sz
  refine g_ent (cc := cX7_watchFrozenKiosks) (maxL := 3) (ret := none) (by decide) rfl hI (Nat.le_of_ble_eq_true rfl) ?_
  intro pgm env s₀ m₀ bel mth cod hX hW hS hsz ls hl
  subst hsz
  have hC := hX.1
  have hx := hC.1
  have hb := hC.2.1
  have hts := hC.2.2.2.1
  have hl : lv_has ls 3 [(0, .ref (ad 0 0))] := hl
  have hin_X1 : ∀ w ∈ wsX10, w ∈ wsX7_watchFrozenKiosks := by decide +kernel
  have hin_X7 : ∀ w ∈ wsX70, w ∈ wsX7_watchFrozenKiosks := by decide +kernel
  have hl_17 := hts (.fieldLink RX7 17 "KioskReel" "kiosks" "[LKioskReel$Kiosk;") (by decide +kernel)
  have hl_99 := hts (.fieldLink RX7 99 "KioskReel" "kioskCount" "I") (by decide +kernel)
  have hl_149 := hts (.fieldLink RX7 149 "KioskReel$Kiosk" "frozen" "Z") (by decide +kernel)
  have hl_152 := hts (.fieldLink RX7 152 "KioskReel$Kiosk" "out" "Z") (by decide +kernel)
  have hl_155 := hts (.fieldLink RX7 155 "KioskReel$Kiosk" "frozenTicks" "I") (by decide +kernel)
  refine k_iconst hC dX7_watchFrozenKiosks_0 ?_
  refine lv_istore_n (lv' := [(1, .int (zi 0)), (0, .ref (ad 0 0))]) hx hb dX7_watchFrozenKiosks_1 rfl hl (by decide) rfl (fun ls hl => ?_)
  have loop_2 : ∀ (fuel : Nat) (τ : St) (i : Int), 6 - i < (fuel : Int) → (0 ≤ i ∧ i ≤ 6) → (fWs (6 - i).toNat τ i = fWs 6 σ 0) → (Inv N (M + i) τ) → ∀ (H : Heap) (locs : List Loc), WP Dg ccnt ad (cE cA ad τ) H → va_S (WA ccnt ad s₀.heap.size) s₀.heap H locs → ∀ ls : Array Slot, lv_has ls 3 [(1, .int (zi i)), (0, .ref (ad 0 0))] → W pgm l env ({ frames := 4, cells := 0, slots := 0, locals := 92 } : Room) s₀ m₀ ([.ref (ad 0 0)] : List Value).toArray bel mth cod H locs 0 0 (MQ bel (va_Qv (fun _ : Unit => True) (gB Dg ccnt ad (cE cA ad (fWs 6 σ 0))) (WA ccnt ad s₀.heap.size)) ([.ref (ad 0 0)] : List Value).toArray s₀ 0 0 (WA ccnt ad s₀.heap.size)) (F0 m₀ 2 ls []) := by
    intro fuel
    induction fuel with
    | zero => intro τ i hn i1 i2 i3; exact absurd hn (by omega)
    | succ fuel ih_2 =>
      intro τ i hn i1 i2 i3 H locs hW hS ls hl
      have hA := i3.A
      unfold IvA at hA
      refine lv_iload_n hx hb dX7_watchFrozenKiosks_2 rfl (lv_at hl 0 rfl) ?_
      refine lv_aload_n hx hb dX7_watchFrozenKiosks_3 rfl (lv_at hl 1 rfl) ?_
      refine cg_KR_kioskCount hC hW hin_X7 hl_99 (v := τ 27 0 0) rfl dX7_watchFrozenKiosks_4 ?_
      refine k_icmp_ge (tgt := 60) hC dX7_watchFrozenKiosks_7 (by decide) (by omega) (fun c1 => ?_) (fun c1 => ?_)
      · have hW : WP Dg ccnt ad (cE cA ad (fWs 6 σ 0)) _ := (sw hW (by rw [← i2, fWs_stop (by omega)]))
        exact k_vret hX hW hS dX7_watchFrozenKiosks_60
      · refine lv_aload_n hx hb dX7_watchFrozenKiosks_10 rfl (lv_at hl 1 rfl) ?_
        refine cg_KR_kiosks hC hW hin_X7 hl_17 dX7_watchFrozenKiosks_11 ?_
        refine lv_iload_n hx hb dX7_watchFrozenKiosks_14 rfl (lv_at hl 0 rfl) ?_
        refine ca_kiosks hC hW (by omega) dX7_watchFrozenKiosks_15 ?_
        refine lv_astore_n (lv' := [(2, .ref (ad 9 i)), (1, .int (zi i)), (0, .ref (ad 0 0))]) hx hb dX7_watchFrozenKiosks_16 rfl hl (by decide) rfl (fun ls hl => ?_)
        refine lv_aload_n hx hb dX7_watchFrozenKiosks_17 rfl (lv_at hl 0 rfl) ?_
        obtain ⟨hK1, hK2, hK3, hK4, hK5, hK6, hK7⟩ := i3.K i (by omega) (by omega)
        refine cg_Kiosk_frozen hC hW hin_X1 hl_149 (by omega) (v := τ 12 i 0) rfl dX7_watchFrozenKiosks_18 ?_
        refine k_if_eq (tgt := 54) hC dX7_watchFrozenKiosks_21 (by decide) (by omega) (fun c2 => ?_) (fun c2 => ?_)
        · refine k_iinc (a := i) (lv' := [(1, .int (zi (i + 1))), (2, .ref (ad 9 i)), (0, .ref (ad 0 0))]) hC dX7_watchFrozenKiosks_54 hl (k := 1) rfl (by decide) rfl (fun ls hl => ?_)
          refine lv_goto (tgt := 2) hx hb dX7_watchFrozenKiosks_57 (by decide) ?_
          have hl := Eq.mp (congrArg (fun z : Int => lv_has ls 3 [(1, .int (zi z)), (2, .ref (ad 9 i)), (0, .ref (ad 0 0))]) (show (i + 1 : Int) = (i + 1) by omega)) hl
          exact ih_2 (fWatch τ i) (i + 1) (by omega) (by omega) (by rw [← fWs_step (by omega) (by omega)]; exact i2) (by have z := Inv_fWatch i3 (k := i) (by omega); rw [Int.add_assoc] at z; exact z) _ _ (by first | exact sw hW (by rw [fWatch, if_pos (by omega)]) | exact sw hW (by rw [fWatch, if_neg (by omega), fWatch1, if_pos (by omega)]) | (rw [fWatch, if_neg (by omega), fWatch1, if_neg (by omega), if_neg (by omega)]; exact gh (fun _ _ => rfl) hW) | (rw [fWatch, if_neg (by omega), fWatch1, if_neg (by omega), if_pos (by omega)]; exact gh (fun _ _ => rfl) (sw hW (by rw [hτ])))) hS _ (lv_sub hl [0, 2] rfl)
        · refine lv_aload_n hx hb dX7_watchFrozenKiosks_24 rfl (lv_at hl 0 rfl) ?_
          refine cg_Kiosk_out hC hW hin_X1 hl_152 (by omega) (v := τ 13 i 0) rfl dX7_watchFrozenKiosks_25 ?_
          refine k_if_ne (tgt := 54) hC dX7_watchFrozenKiosks_28 (by decide) (by omega) (fun c3 => ?_) (fun c3 => ?_)
          · refine k_iinc (a := i) (lv' := [(1, .int (zi (i + 1))), (2, .ref (ad 9 i)), (0, .ref (ad 0 0))]) hC dX7_watchFrozenKiosks_54 hl (k := 1) rfl (by decide) rfl (fun ls hl => ?_)
            refine lv_goto (tgt := 2) hx hb dX7_watchFrozenKiosks_57 (by decide) ?_
            have hl := Eq.mp (congrArg (fun z : Int => lv_has ls 3 [(1, .int (zi z)), (2, .ref (ad 9 i)), (0, .ref (ad 0 0))]) (show (i + 1 : Int) = (i + 1) by omega)) hl
            exact ih_2 (fWatch τ i) (i + 1) (by omega) (by omega) (by rw [← fWs_step (by omega) (by omega)]; exact i2) (by have z := Inv_fWatch i3 (k := i) (by omega); rw [Int.add_assoc] at z; exact z) _ _ (by first | exact sw hW (by rw [fWatch, if_pos (by omega)]) | exact sw hW (by rw [fWatch, if_neg (by omega), fWatch1, if_pos (by omega)]) | (rw [fWatch, if_neg (by omega), fWatch1, if_neg (by omega), if_neg (by omega)]; exact gh (fun _ _ => rfl) hW) | (rw [fWatch, if_neg (by omega), fWatch1, if_neg (by omega), if_pos (by omega)]; exact gh (fun _ _ => rfl) (sw hW (by rw [hτ])))) hS _ (lv_sub hl [0, 2] rfl)
          · refine lv_aload_n hx hb dX7_watchFrozenKiosks_31 rfl (lv_at hl 0 rfl) ?_
            refine lv_dup hx hb dX7_watchFrozenKiosks_32 rfl ?_
            refine cg_Kiosk_frozenTicks hC hW hin_X1 hl_155 (by omega) (v := τ 14 i 0) rfl dX7_watchFrozenKiosks_33 ?_
            refine k_iconst hC dX7_watchFrozenKiosks_36 ?_
            refine k_iadd hC dX7_watchFrozenKiosks_37 ?_
            refine cp_Kiosk_frozenTicks hC hW hin_X1 hl_155 (by omega) hS dX7_watchFrozenKiosks_38 (fun H locs hW hS => ?_)
            obtain ⟨σ1, hσ1⟩ : ∃ z, z = ups τ 14 i 0 ((τ 14 i 0) + 1) := ⟨_, rfl⟩
            rw [← hσ1] at hW
            refine lv_aload_n hx hb dX7_watchFrozenKiosks_41 rfl (lv_at hl 0 rfl) ?_
            refine cg_Kiosk_frozenTicks hC hW hin_X1 hl_155 (by omega) (v := (τ 14 i 0) + 1) (by rw [hσ1, ups_eq]) dX7_watchFrozenKiosks_42 ?_
            refine k_iconst hC dX7_watchFrozenKiosks_45 ?_
            refine k_icmp_lt (tgt := 54) hC dX7_watchFrozenKiosks_46 (by decide) (by omega) (fun c4 => ?_) (fun c4 => ?_)
            · refine k_iinc (a := i) (lv' := [(1, .int (zi (i + 1))), (2, .ref (ad 9 i)), (0, .ref (ad 0 0))]) hC dX7_watchFrozenKiosks_54 hl (k := 1) rfl (by decide) rfl (fun ls hl => ?_)
              refine lv_goto (tgt := 2) hx hb dX7_watchFrozenKiosks_57 (by decide) ?_
              have hl := Eq.mp (congrArg (fun z : Int => lv_has ls 3 [(1, .int (zi z)), (2, .ref (ad 9 i)), (0, .ref (ad 0 0))]) (show (i + 1 : Int) = (i + 1) by omega)) hl
              exact ih_2 (fWatch τ i) (i + 1) (by omega) (by omega) (by rw [← fWs_step (by omega) (by omega)]; exact i2) (by have z := Inv_fWatch i3 (k := i) (by omega); rw [Int.add_assoc] at z; exact z) _ _ (by first | exact sw hW (by rw [hσ1, fWatch, if_pos (by omega)]) | exact sw hW (by rw [fWatch, if_neg (by omega), fWatch1, if_pos (by omega)]) | (rw [fWatch, if_neg (by omega), fWatch1, if_neg (by omega), if_neg (by omega)]; exact gh (fun _ _ => rfl) hW) | (rw [fWatch, if_neg (by omega), fWatch1, if_neg (by omega), if_pos (by omega)]; exact gh (fun _ _ => rfl) (sw hW (by rw [hσ1])))) hS _ (lv_sub hl [0, 2] rfl)
            · obtain ⟨σ2, hσ2⟩ : ∃ z, z = fWatch1 τ i := ⟨_, rfl⟩
              have hW : WP Dg ccnt ad (cE cA ad σ2) _ := (by rw [hσ2, fWatch1, if_neg (by omega), if_pos (by omega)]; exact gh (fun _ _ => rfl) (sw hW (by rw [hσ1])))
              refine lv_aload_n hx hb dX7_watchFrozenKiosks_49 rfl (lv_at hl 2 rfl) ?_
              refine lv_iload_n hx hb dX7_watchFrozenKiosks_50 rfl (lv_at hl 1 rfl) ?_
              refine k_callV (As := [.int (zi i)]) (rest := []) hX hl.1 (m_makeOut hI σ2 i (by rw [hσ2, at1 (fWatch1_T τ i) (t := 27) (by decide)]; omega) (by rw [hσ2]; exact Inv_w13 i3 (by omega) (by omega) (by omega))) (cwV 1 hts gX7_watchFrozenKiosks_X7_makeOut rfl rfl rfl (by decide +kernel) ⟨Nat.le_of_ble_eq_true rfl, Nat.le_of_ble_eq_true rfl⟩) (rc_KR hC hW) hW hS ⟨Nat.zero_le _, Nat.zero_le _⟩ rfl rfl (Nat.le_of_ble_eq_true rfl) dX7_watchFrozenKiosks_51 (fun H locs hW hS _ _ => ?_)
              obtain ⟨σ3, hσ3⟩ : ∃ z, z = fOut σ2 i := ⟨_, rfl⟩
              rw [← hσ3] at hW
              refine k_iinc (a := i) (lv' := [(1, .int (zi (i + 1))), (2, .ref (ad 9 i)), (0, .ref (ad 0 0))]) hC dX7_watchFrozenKiosks_54 hl (k := 1) rfl (by decide) rfl (fun ls hl => ?_)
              refine lv_goto (tgt := 2) hx hb dX7_watchFrozenKiosks_57 (by decide) ?_
              have hl := Eq.mp (congrArg (fun z : Int => lv_has ls 3 [(1, .int (zi z)), (2, .ref (ad 9 i)), (0, .ref (ad 0 0))]) (show (i + 1 : Int) = (i + 1) by omega)) hl
              exact ih_2 (fWatch τ i) (i + 1) (by omega) (by omega) (by rw [← fWs_step (by omega) (by omega)]; exact i2) (by have z := Inv_fWatch i3 (k := i) (by omega); rw [Int.add_assoc] at z; exact z) _ _ (by first | exact sw hW (by rw [hσ3, hσ2, fWatch, if_pos (by omega)]) | exact sw hW (by rw [fWatch, if_neg (by omega), fWatch1, if_pos (by omega)]) | (rw [fWatch, if_neg (by omega), fWatch1, if_neg (by omega), if_neg (by omega)]; exact gh (fun _ _ => rfl) hW) | (rw [fWatch, if_neg (by omega), fWatch1, if_neg (by omega), if_pos (by omega)]; exact gh (fun _ _ => rfl) (sw hW (by rw [hσ3])))) hS _ (lv_sub hl [0, 2] rfl)
  exact loop_2 (Int.toNat (6 - 0) + 1) σ 0 (by omega) (by omega) rfl (by rw [Int.add_zero]; exact hv) _ _ hW hS _ (lv_sub hl [0, 1] rfl)
set_option maxHeartbeats 4000000 in
set_option maxRecDepth 100000 in
theorem m_tick {l : Launch} {Dg : va_G} {cA : Nat → ClassId} {ad : Nat → Int → Nat} {oc : Nat → Nat} (hI : WI ccnt ad) {N M : Int} (σ : St) (n : Int) (hv : Inv N M σ) (h1 : 1 ≤ n ∧ n ≤ 50) (hN : N ≤ 1000000) : GI l yX7_tick wsX7_tick ({ frames := 6, cells := 0, slots := 0, locals := 143 } : Room) Dg cA ccnt ad oc (cE cA ad σ) [.ref (ad 0 0), .int (zi n)] (fTick n.toNat (ups σ 30 0 0 0) 30 0 0) (cE cA ad (fTick n.toNat (ups σ 30 0 0 0))) := by
  intro sz
  refine g_ent (cc := cX7_tick) (maxL := 4) (ret := (some .int)) (by decide) rfl hI (Nat.le_of_ble_eq_true rfl) ?_
  intro pgm env s₀ m₀ bel mth cod hX hW hS hsz ls hl
  subst hsz
  have hC := hX.1
  have hx := hC.1
  have hb := hC.2.1
  have hts := hC.2.2.2.1
  have hl : lv_has ls 4 [(0, .ref (ad 0 0)), (1, .int (zi n))] := hl
  refine lv_iload_n hx hb dX7_tick_0 rfl (lv_at hl 1 rfl) ?_
  refine k_iconst hC dX7_tick_1 ?_
  refine k_icmp_lt (tgt := 11) hC dX7_tick_2 (by decide) (by omega) (fun c1 => absurd c1 (by omega)) (fun c1 => ?_)
  refine lv_iload_n hx hb dX7_tick_5 rfl (lv_at hl 1 rfl) ?_
  refine k_bipush hC dX7_tick_6 (by decide) ?_
  refine k_icmp_le (tgt := 21) hC dX7_tick_8 (by decide) (by omega) (fun c2 => ?_) (fun c2 => absurd c2 (by omega))
  refine k_iconst hC dX7_tick_21 ?_
  refine lv_istore_n (lv' := [(2, .int (zi 0)), (0, .ref (ad 0 0)), (1, .int (zi n))]) hx hb dX7_tick_22 rfl hl (by decide) rfl (fun ls hl => ?_)
  refine k_iconst hC dX7_tick_23 ?_
  refine lv_istore_n (lv' := [(3, .int (zi 0)), (2, .int (zi 0)), (0, .ref (ad 0 0)), (1, .int (zi n))]) hx hb dX7_tick_24 rfl hl (by decide) rfl (fun ls hl => ?_)
  have loop_25 : ∀ (fuel : Nat) (τ : St) (i : Int) (sh : Int), n - i < (fuel : Int) → (0 ≤ i ∧ i ≤ n) → (fTick (n - i).toNat τ = fTick n.toNat (ups σ 30 0 0 0)) → (Inv N (M + 6 * i) τ) → (sh = τ 30 0 0) → ∀ (H : Heap) (locs : List Loc), WP Dg ccnt ad (cE cA ad τ) H → va_S (WA ccnt ad s₀.heap.size) s₀.heap H locs → ∀ ls : Array Slot, lv_has ls 4 [(3, .int (zi i)), (2, .int (zi sh)), (0, .ref (ad 0 0)), (1, .int (zi n))] → W pgm l env ({ frames := 6, cells := 0, slots := 0, locals := 143 } : Room) s₀ m₀ ([.ref (ad 0 0), .int (zi n)] : List Value).toArray bel mth cod H locs 0 0 (MQ bel (va_Qi (fun (rr : Int32) (_ : Unit) => rr = zi (fTick n.toNat (ups σ 30 0 0 0) 30 0 0)) (gB Dg ccnt ad (cE cA ad (fTick n.toNat (ups σ 30 0 0 0)))) (WA ccnt ad s₀.heap.size)) ([.ref (ad 0 0), .int (zi n)] : List Value).toArray s₀ 0 0 (WA ccnt ad s₀.heap.size)) (F0 m₀ 25 ls []) := by
    intro fuel
    induction fuel with
    | zero => intro τ i sh hn i1 i2 i3 i4; exact absurd hn (by omega)
    | succ fuel ih_25 =>
      intro τ i sh hn i1 i2 i3 i4 H locs hW hS ls hl
      refine lv_iload_n hx hb dX7_tick_25 rfl (lv_at hl 0 rfl) ?_
      refine lv_iload_n hx hb dX7_tick_26 rfl (lv_at hl 3 rfl) ?_
      refine k_icmp_ge (tgt := 47) hC dX7_tick_27 (by decide) (by omega) (fun c3 => ?_) (fun c3 => ?_)
      · refine lv_iload_n hx hb dX7_tick_47 rfl (lv_at hl 1 rfl) ?_
        have hW : WP Dg ccnt ad (cE cA ad (fTick n.toNat (ups σ 30 0 0 0))) _ := (sw hW (by rw [← i2, show (n - i).toNat = 0 by omega]; rfl))
        exact k_iret hX (by rw [← i2, show (n - i).toNat = 0 by omega]; exact i4) hW hS dX7_tick_48
      · refine lv_iload_n hx hb dX7_tick_30 rfl (lv_at hl 1 rfl) ?_
        refine lv_aload_n hx hb dX7_tick_31 rfl (lv_at hl 2 rfl) ?_
        refine k_callI (As := []) (rest := [.int (zi sh)]) hX hl.1 (m_playOneTick hI τ i3 hN) (cwV 0 hts gX7_tick_X7_playOneTick rfl rfl rfl (by decide +kernel) ⟨Nat.le_of_ble_eq_true rfl, Nat.le_of_ble_eq_true rfl⟩) (rc_KR hC hW) hW hS ⟨Nat.zero_le _, Nat.zero_le _⟩ rfl rfl (Nat.le_of_ble_eq_true rfl) dX7_tick_32 (fun H locs hW hS _ _ => ?_)
        obtain ⟨σ1, hσ1⟩ : ∃ z, z = fKs 6 τ 0 := ⟨_, rfl⟩
        rw [← hσ1] at hW
        refine k_iadd hC dX7_tick_35 ?_
        refine lv_istore_n (lv' := [(2, .int (zi (sh + (fKs 6 τ 0 30 0 0 - τ 30 0 0)))), (3, .int (zi i)), (0, .ref (ad 0 0)), (1, .int (zi n))]) hx hb dX7_tick_36 rfl hl (by decide) rfl (fun ls hl => ?_)
        refine lv_aload_n hx hb dX7_tick_37 rfl (lv_at hl 2 rfl) ?_
        refine k_callV (As := []) (rest := []) hX hl.1 (m_watch hI σ1 (by rw [hσ1]; exact Inv_fKs 6 (Int.le_refl _) i3)) (cwV 0 hts gX7_tick_X7_watchFrozenKiosks rfl rfl rfl (by decide +kernel) ⟨Nat.le_of_ble_eq_true rfl, Nat.le_of_ble_eq_true rfl⟩) (rc_KR hC hW) hW hS ⟨Nat.zero_le _, Nat.zero_le _⟩ rfl rfl (Nat.le_of_ble_eq_true rfl) dX7_tick_38 (fun H locs hW hS _ _ => ?_)
        obtain ⟨σ2, hσ2⟩ : ∃ z, z = fWs 6 σ1 0 := ⟨_, rfl⟩
        rw [← hσ2] at hW
        refine k_iinc (a := i) (lv' := [(3, .int (zi (i + 1))), (2, .int (zi (sh + (fKs 6 τ 0 30 0 0 - τ 30 0 0)))), (0, .ref (ad 0 0)), (1, .int (zi n))]) hC dX7_tick_41 hl (k := 1) rfl (by decide) rfl (fun ls hl => ?_)
        refine lv_goto (tgt := 25) hx hb dX7_tick_44 (by decide) ?_
        have hl := Eq.mp (congrArg (fun z : Int => lv_has ls 4 [(3, .int (zi z)), (2, .int (zi (sh + (fKs 6 τ 0 30 0 0 - τ 30 0 0)))), (0, .ref (ad 0 0)), (1, .int (zi n))]) (show (i + 1 : Int) = (i + 1) by omega)) hl
        have hl := Eq.mp (congrArg (fun z : Int => lv_has ls 4 [(3, .int (zi (i + 1))), (2, .int (zi z)), (0, .ref (ad 0 0)), (1, .int (zi n))]) (show (sh + (fKs 6 τ 0 30 0 0 - τ 30 0 0) : Int) = (sh + (fKs 6 τ 0 30 0 0 - τ 30 0 0)) by omega)) hl
        exact ih_25 (fTick1 τ) (i + 1) (sh + (fKs 6 τ 0 30 0 0 - τ 30 0 0)) (by omega) (by omega) (by rw [← fTick_step (by omega)]; exact i2) (Inv_mono (Inv_fTick1 i3) (Int.le_refl _) (by omega)) (by rw [i4, fTick1, at1 (fWs_T 6 _ 0) (t := 30) (by decide)]; omega) _ _ (sw hW (by rw [hσ2, hσ1]; rfl)) hS _ (lv_sub hl [0, 1, 2, 3] rfl)
  exact loop_25 (Int.toNat (n - 0) + 1) (ups σ 30 0 0 0) 0 0 (by omega) (by omega) (by rw [Int.sub_zero]) (Inv_o30 (Inv_mono hv (Int.le_refl _) (by omega))) (by rw [ups_eq]) _ _ (gh (u := 30) (fun _ _ => rfl) hW) hS _ (lv_sub hl [0, 1, 2, 3] rfl)
set_option maxHeartbeats 4000000 in
set_option maxRecDepth 100000 in
theorem m_tick_x {l : Launch} {Dg : va_G} {cA : Nat → ClassId} {ad : Nat → Int → Nat} {oc : Nat → Nat} (hI : WI ccnt ad) (hfl : l.stackTraces = false) (σ : St) (n : Int) (h1 : ¬ (1 ≤ n ∧ n ≤ 50)) (hxr : -2147483648 ≤ n ∧ n < 2147483648) : GX l yX7_tick wsX7_tick ({ frames := 6, cells := 1, slots := 6, locals := 143 } : Room) Dg cA ccnt ad oc (cE cA ad σ) [.ref (ad 0 0), .int (zi n)] "java/lang/IllegalArgumentException" := by
  intro sz
  refine gx_ent (cc := cX7_tick) (maxL := 4) (ret := (some .int)) (by decide) rfl hI (Nat.le_of_ble_eq_true rfl) ?_
  intro pgm env s₀ m₀ bel mth cod hX hno hW hS hsz ls hl
  subst hsz
  have hC := hX.1
  have hx := hC.1
  have hb := hC.2.1
  have hts := hC.2.2.2.1
  have hl : lv_has ls 4 [(0, .ref (ad 0 0)), (1, .int (zi n))] := hl
  refine lv_iload_n hx hb dX7_tick_0 rfl (lv_at hl 1 rfl) ?_
  refine k_iconst hC dX7_tick_1 ?_
  refine k_icmp_lt (tgt := 11) hC dX7_tick_2 (by decide) (by omega) (fun c1 => ?_) (fun c1 => ?_)
  · exact k_throw (rest := []) (text := "the number of ticks is out of range") hX rfl hno hl.1 hfl (by decide +kernel) (by decide +kernel) (by decide +kernel) (by decide +kernel) (by decide +kernel) (by decide +kernel) (by decide +kernel) hW hS dX7_tick_11 dX7_tick_14 dX7_tick_15 dX7_tick_17 dX7_tick_20 ⟨Nat.le_of_ble_eq_true rfl, Nat.le_of_ble_eq_true rfl, Nat.le_of_ble_eq_true rfl, Nat.le_of_ble_eq_true rfl⟩
  · refine lv_iload_n hx hb dX7_tick_5 rfl (lv_at hl 1 rfl) ?_
    refine k_bipush hC dX7_tick_6 (by decide) ?_
    refine k_icmp_le (tgt := 21) hC dX7_tick_8 (by decide) (by omega) (fun c2 => absurd c2 (by omega)) (fun c2 => ?_)
    exact k_throw (rest := []) (text := "the number of ticks is out of range") hX rfl hno hl.1 hfl (by decide +kernel) (by decide +kernel) (by decide +kernel) (by decide +kernel) (by decide +kernel) (by decide +kernel) (by decide +kernel) hW hS dX7_tick_11 dX7_tick_14 dX7_tick_15 dX7_tick_17 dX7_tick_20 ⟨Nat.le_of_ble_eq_true rfl, Nat.le_of_ble_eq_true rfl, Nat.le_of_ble_eq_true rfl, Nat.le_of_ble_eq_true rfl⟩
set_option maxHeartbeats 4000000 in
set_option maxRecDepth 100000 in
theorem m_stop {l : Launch} {Dg : va_G} {cA : Nat → ClassId} {ad : Nat → Int → Nat} {oc : Nat → Nat} (hI : WI ccnt ad) {N M : Int} (σ : St) (k : Int) (hv : Inv N M σ) (hk : 0 ≤ k ∧ k < σ 27 0 0) (h6 : σ 6 k 0 = 1) : GI l yX7_stop wsX7_stop ({ frames := 8, cells := 0, slots := 0, locals := 132 } : Room) Dg cA ccnt ad oc (cE cA ad σ) [.ref (ad 0 0), .int (zi k)] (held σ k) (cE cA ad (fStop σ k)) := by
  intro sz
  refine g_ent (cc := cX7_stop) (maxL := 4) (ret := (some .int)) (by decide) rfl hI (Nat.le_of_ble_eq_true rfl) ?_
  intro pgm env s₀ m₀ bel mth cod hX hW hS hsz ls hl
  subst hsz
  have hC := hX.1
  have hx := hC.1
  have hb := hC.2.1
  have hts := hC.2.2.2.1
  have hl : lv_has ls 4 [(0, .ref (ad 0 0)), (1, .int (zi k))] := hl
  have hin_X0 : ∀ w ∈ wsX00, w ∈ wsX7_stop := by decide +kernel
  have hin_X3 : ∀ w ∈ wsX30, w ∈ wsX7_stop := by decide +kernel
  have hin_X7 : ∀ w ∈ wsX70, w ∈ wsX7_stop := by decide +kernel
  have hl_23 := hts (.fieldLink RX7 23 "KioskReel" "players" "[LKioskReel$Player;") (by decide +kernel)
  have hl_29 := hts (.fieldLink RX7 29 "KioskReel" "devices" "[LKioskReel$Device;") (by decide +kernel)
  have hl_107 := hts (.fieldLink RX7 107 "KioskReel$Player" "started" "Z") (by decide +kernel)
  have hl_131 := hts (.fieldLink RX7 131 "KioskReel$Device" "owner" "I") (by decide +kernel)
  have hl_137 := hts (.fieldLink RX7 137 "KioskReel$Device" "queue" "LKioskReel$PlayerRow;") (by decide +kernel)
  have hA := hv.A
  unfold IvA at hA
  have hk6 : 0 ≤ k ∧ k < 6 := by omega
  have hU := hv.U k hk6.1 hk6.2
  have hS8 := hv.S k hk6.1 hk6.2
  refine lv_aload_n hx hb dX7_stop_0 rfl (lv_at hl 0 rfl) ?_
  refine lv_iload_n hx hb dX7_stop_1 rfl (lv_at hl 1 rfl) ?_
  refine k_callV (As := [.int (zi k)]) (rest := []) hX hl.1 (m_checkPlayer hI σ k hv hk h6) (cwV 1 hts gX7_stop_X7_checkPlayer rfl rfl rfl (by decide +kernel) ⟨Nat.le_of_ble_eq_true rfl, Nat.le_of_ble_eq_true rfl⟩) (rc_KR hC hW) hW hS ⟨Nat.zero_le _, Nat.zero_le _⟩ rfl rfl (Nat.le_of_ble_eq_true rfl) dX7_stop_2 (fun H locs hW hS _ _ => ?_)
  refine k_iconst hC dX7_stop_5 ?_
  refine lv_istore_n (lv' := [(2, .int (zi 0)), (0, .ref (ad 0 0)), (1, .int (zi k))]) hx hb dX7_stop_6 rfl hl (by decide) rfl (fun ls hl => ?_)
  refine k_iconst hC dX7_stop_7 ?_
  refine lv_istore_n (lv' := [(3, .int (zi 0)), (2, .int (zi 0)), (0, .ref (ad 0 0)), (1, .int (zi k))]) hx hb dX7_stop_8 rfl hl (by decide) rfl (fun ls hl => ?_)
  have loop_9 : ∀ (fuel : Nat) (d : Int) (co : Int), 6 - d < (fuel : Int) → (0 ≤ d ∧ d ≤ 6) → (co = cN (fun e => decide (σ 18 e 0 = k)) d) → ∀ (H : Heap) (locs : List Loc), WP Dg ccnt ad (cE cA ad (stC σ k d)) H → va_S (WA ccnt ad s₀.heap.size) s₀.heap H locs → ∀ ls : Array Slot, lv_has ls 4 [(3, .int (zi d)), (2, .int (zi co)), (0, .ref (ad 0 0)), (1, .int (zi k))] → W pgm l env ({ frames := 8, cells := 0, slots := 0, locals := 132 } : Room) s₀ m₀ ([.ref (ad 0 0), .int (zi k)] : List Value).toArray bel mth cod H locs 0 0 (MQ bel (va_Qi (fun (rr : Int32) (_ : Unit) => rr = zi (held σ k)) (gB Dg ccnt ad (cE cA ad (fStop σ k))) (WA ccnt ad s₀.heap.size)) ([.ref (ad 0 0), .int (zi k)] : List Value).toArray s₀ 0 0 (WA ccnt ad s₀.heap.size)) (F0 m₀ 9 ls []) := by
    intro fuel
    induction fuel with
    | zero => intro d co hn i1 i2; exact absurd hn (by omega)
    | succ fuel ih_9 =>
      intro d co hn i1 i2 H locs hW hS ls hl
      obtain ⟨σ1, hσ1⟩ : ∃ z, z = stC σ k d := ⟨_, rfl⟩
      rw [← hσ1] at hW
      refine lv_iload_n hx hb dX7_stop_9 rfl (lv_at hl 0 rfl) ?_
      refine k_bipush hC dX7_stop_10 (by decide) ?_
      refine k_icmp_ge (tgt := 55) hC dX7_stop_12 (by decide) (by omega) (fun c1 => ?_) (fun c1 => ?_)
      · have hd6 : d = 6 := by omega
        subst hd6
        obtain ⟨f1, f2, f3, f4⟩ := stop_fin hv hk6 h6
        rw [← hσ1] at f1 f2 f3 f4
        refine lv_aload_n hx hb dX7_stop_55 rfl (lv_at hl 2 rfl) ?_
        refine lv_iload_n hx hb dX7_stop_56 rfl (lv_at hl 3 rfl) ?_
        refine k_callV (As := [.int (zi k)]) (rest := []) hX hl.1 (m_leave hI σ1 k hk6 f1 (by omega) f3) (cwV 1 hts gX7_stop_X7_leave rfl rfl rfl (by decide +kernel) ⟨Nat.le_of_ble_eq_true rfl, Nat.le_of_ble_eq_true rfl⟩) (rc_KR hC hW) hW hS ⟨Nat.zero_le _, Nat.zero_le _⟩ rfl rfl (Nat.le_of_ble_eq_true rfl) dX7_stop_57 (fun H locs hW hS _ _ => ?_)
        obtain ⟨σ2, hσ2⟩ : ∃ z, z = fLeave σ1 k := ⟨_, rfl⟩
        rw [← hσ2] at hW
        refine lv_aload_n hx hb dX7_stop_60 rfl (lv_at hl 2 rfl) ?_
        refine cg_KR_players hC hW hin_X7 hl_23 dX7_stop_61 ?_
        refine lv_iload_n hx hb dX7_stop_64 rfl (lv_at hl 3 rfl) ?_
        refine ca_players hC hW (by omega) dX7_stop_65 ?_
        refine k_iconst hC dX7_stop_66 ?_
        refine cp_Player_started hC hW hin_X3 hl_107 (by omega) hS (by omega) dX7_stop_67 (fun H locs hW hS => ?_)
        obtain ⟨σ3, hσ3⟩ : ∃ z, z = ups σ2 6 k 0 0 := ⟨_, rfl⟩
        rw [← hσ3] at hW
        refine lv_iload_n hx hb dX7_stop_70 rfl (lv_at hl 1 rfl) ?_
        have hW : WP Dg ccnt ad (cE cA ad (fStop σ k)) _ := (sw hW (by rw [hσ3, hσ2]; exact f4))
        exact k_iret hX (by rw [i2]; rfl) hW hS dX7_stop_71
      · obtain ⟨q1, q2, q3, q4⟩ := stop_at hv hk6 h6 (d := d) (by omega)
        rw [← hσ1] at q1 q2 q3 q4
        have hO := (hv.O.1 d (by omega) (by omega)).1
        refine lv_aload_n hx hb dX7_stop_15 rfl (lv_at hl 2 rfl) ?_
        refine cg_KR_devices hC hW hin_X7 hl_29 dX7_stop_16 ?_
        refine lv_iload_n hx hb dX7_stop_19 rfl (lv_at hl 0 rfl) ?_
        refine ca_devices hC hW (by omega) dX7_stop_20 ?_
        refine cg_Device_owner hC hW hin_X0 hl_131 (by omega) (v := σ1 18 d 0) rfl dX7_stop_21 ?_
        refine lv_iload_n hx hb dX7_stop_24 rfl (lv_at hl 3 rfl) ?_
        refine k_icmp_ne (tgt := 36) hC dX7_stop_25 (by decide) (by omega) (fun c2 => ?_) (fun c2 => ?_)
        · rcases Classical.em (σ 11 k 0 = d) with hac | hac
          · refine lv_aload_n hx hb dX7_stop_36 rfl (lv_at hl 2 rfl) ?_
            refine cg_KR_devices hC hW hin_X7 hl_29 dX7_stop_37 ?_
            refine lv_iload_n hx hb dX7_stop_40 rfl (lv_at hl 0 rfl) ?_
            refine ca_devices hC hW (by omega) dX7_stop_41 ?_
            refine cg_Device_queue hC hW hin_X0 hl_137 (by omega) dX7_stop_42 ?_
            refine lv_iload_n hx hb dX7_stop_45 rfl (lv_at hl 3 rfl) ?_
            obtain ⟨w1, w2, w3⟩ := q1 (6 + d) (by omega) (by omega)
            have hm := ((q4 (by omega)).2 (by omega)).1
            obtain ⟨x1, x2, x3, x4⟩ := idx_spec hm
            refine k_callV (As := [.int (zi k)]) (rest := []) hX hl.1 (m_remove hI σ1 (6 + d) k (idx σ1 (6 + d) k) (by omega) w1 (by omega) w2 ⟨x1, x2⟩ x3 (fun j a b c => w3 j _ a b x1 x2 (c.trans x3.symm))) (cwV 1 hts gX7_stop_X4_remove rfl rfl rfl (by decide +kernel) ⟨Nat.le_of_ble_eq_true rfl, Nat.le_of_ble_eq_true rfl⟩) (rc_Row hC hW (by omega)) hW hS ⟨Nat.zero_le _, Nat.zero_le _⟩ rfl rfl (Nat.le_of_ble_eq_true rfl) dX7_stop_46 (fun H locs hW hS _ _ => ?_)
            obtain ⟨σ4, hσ4⟩ : ∃ z, z = rAt σ1 (6 + d) (idx σ1 (6 + d) k) := ⟨_, rfl⟩
            rw [← hσ4] at hW
            refine k_iinc (a := d) (lv' := [(3, .int (zi (d + 1))), (2, .int (zi co)), (0, .ref (ad 0 0)), (1, .int (zi k))]) hC dX7_stop_49 hl (k := 0) rfl (by decide) rfl (fun ls hl => ?_)
            refine lv_goto (tgt := 9) hx hb dX7_stop_52 (by decide) ?_
            have hl := Eq.mp (congrArg (fun z : Int => lv_has ls 4 [(3, .int (zi z)), (2, .int (zi co)), (0, .ref (ad 0 0)), (1, .int (zi k))]) (show (d + 1 : Int) = (d + 1) by omega)) hl
            exact ih_9 (d + 1) co (by omega) (by omega) (by first | rw [cN_t _ (by omega) (decide_eq_true (by omega)), i2] | rw [cN_f _ (by omega) (decide_eq_false (by omega)), i2]) _ _ (by first | exact sw hW (by rw [hσ4]; exact (q3 (by omega)).2) | exact sw hW ((q4 (by omega)).1 (by omega)).2 | (rw [← ((q4 (by omega)).2 (by omega)).2]; exact gh (fun _ _ => rfl) (sw hW (by rw [hσ4])))) hS _ (lv_sub hl [0, 1, 2, 3] rfl)
          · refine lv_aload_n hx hb dX7_stop_36 rfl (lv_at hl 2 rfl) ?_
            refine cg_KR_devices hC hW hin_X7 hl_29 dX7_stop_37 ?_
            refine lv_iload_n hx hb dX7_stop_40 rfl (lv_at hl 0 rfl) ?_
            refine ca_devices hC hW (by omega) dX7_stop_41 ?_
            refine cg_Device_queue hC hW hin_X0 hl_137 (by omega) dX7_stop_42 ?_
            refine lv_iload_n hx hb dX7_stop_45 rfl (lv_at hl 3 rfl) ?_
            obtain ⟨w1, w2, w3⟩ := q1 (6 + d) (by omega) (by omega)
            have hm := ((q4 (by omega)).1 (by omega)).1
            refine k_callV (As := [.int (zi k)]) (rest := []) hX hl.1 (m_remove_no hI σ1 (6 + d) k (by omega) w1 (by omega) w2 (fun j a b c => hm ⟨j, a, b, c⟩)) (cwV 1 hts gX7_stop_X4_remove rfl rfl rfl (by decide +kernel) ⟨Nat.le_of_ble_eq_true rfl, Nat.le_of_ble_eq_true rfl⟩) (rc_Row hC hW (by omega)) hW hS ⟨Nat.zero_le _, Nat.zero_le _⟩ rfl rfl (Nat.le_of_ble_eq_true rfl) dX7_stop_46 (fun H locs hW hS _ _ => ?_)
            refine k_iinc (a := d) (lv' := [(3, .int (zi (d + 1))), (2, .int (zi co)), (0, .ref (ad 0 0)), (1, .int (zi k))]) hC dX7_stop_49 hl (k := 0) rfl (by decide) rfl (fun ls hl => ?_)
            refine lv_goto (tgt := 9) hx hb dX7_stop_52 (by decide) ?_
            have hl := Eq.mp (congrArg (fun z : Int => lv_has ls 4 [(3, .int (zi z)), (2, .int (zi co)), (0, .ref (ad 0 0)), (1, .int (zi k))]) (show (d + 1 : Int) = (d + 1) by omega)) hl
            exact ih_9 (d + 1) co (by omega) (by omega) (by first | rw [cN_t _ (by omega) (decide_eq_true (by omega)), i2] | rw [cN_f _ (by omega) (decide_eq_false (by omega)), i2]) _ _ (by first | exact sw hW (by rw [hσ1]; exact (q3 (by omega)).2) | exact sw hW ((q4 (by omega)).1 (by omega)).2 | (rw [← ((q4 (by omega)).2 (by omega)).2]; exact gh (fun _ _ => rfl) (sw hW (by rw [hσ1])))) hS _ (lv_sub hl [0, 1, 2, 3] rfl)
        · refine lv_aload_n hx hb dX7_stop_28 rfl (lv_at hl 2 rfl) ?_
          refine lv_iload_n hx hb dX7_stop_29 rfl (lv_at hl 0 rfl) ?_
          refine k_callV (As := [.int (zi d)]) (rest := []) hX hl.1 (m_passOn hI σ1 d (by omega) q1) (cwV 1 hts gX7_stop_X7_passOn rfl rfl rfl (by decide +kernel) ⟨Nat.le_of_ble_eq_true rfl, Nat.le_of_ble_eq_true rfl⟩) (rc_KR hC hW) hW hS ⟨Nat.zero_le _, Nat.zero_le _⟩ rfl rfl (Nat.le_of_ble_eq_true rfl) dX7_stop_30 (fun H locs hW hS _ _ => ?_)
          obtain ⟨σ5, hσ5⟩ : ∃ z, z = fPass σ1 d := ⟨_, rfl⟩
          rw [← hσ5] at hW
          refine k_iinc (a := co) (lv' := [(2, .int (zi (co + 1))), (3, .int (zi d)), (0, .ref (ad 0 0)), (1, .int (zi k))]) hC dX7_stop_33 hl (k := 1) rfl (by decide) rfl (fun ls hl => ?_)
          refine lv_aload_n hx hb dX7_stop_36 rfl (lv_at hl 2 rfl) ?_
          refine cg_KR_devices hC hW hin_X7 hl_29 dX7_stop_37 ?_
          refine lv_iload_n hx hb dX7_stop_40 rfl (lv_at hl 1 rfl) ?_
          refine ca_devices hC hW (by omega) dX7_stop_41 ?_
          refine cg_Device_queue hC hW hin_X0 hl_137 (by omega) dX7_stop_42 ?_
          refine lv_iload_n hx hb dX7_stop_45 rfl (lv_at hl 3 rfl) ?_
          obtain ⟨w1, w2, w3⟩ := (IvW_fPass q1 (d := d) (by omega)) (6 + d) (by omega) (by omega)
          rw [← hσ5] at w1 w2 w3
          have hm := (q3 (by omega)).1
          rw [← hσ5] at hm
          refine k_callV (As := [.int (zi k)]) (rest := []) hX hl.1 (m_remove_no hI σ5 (6 + d) k (by omega) w1 (by omega) w2 (fun j a b c => hm ⟨j, a, b, c⟩)) (cwV 1 hts gX7_stop_X4_remove rfl rfl rfl (by decide +kernel) ⟨Nat.le_of_ble_eq_true rfl, Nat.le_of_ble_eq_true rfl⟩) (rc_Row hC hW (by omega)) hW hS ⟨Nat.zero_le _, Nat.zero_le _⟩ rfl rfl (Nat.le_of_ble_eq_true rfl) dX7_stop_46 (fun H locs hW hS _ _ => ?_)
          refine k_iinc (a := d) (lv' := [(3, .int (zi (d + 1))), (2, .int (zi (co + 1))), (0, .ref (ad 0 0)), (1, .int (zi k))]) hC dX7_stop_49 hl (k := 1) rfl (by decide) rfl (fun ls hl => ?_)
          refine lv_goto (tgt := 9) hx hb dX7_stop_52 (by decide) ?_
          have hl := Eq.mp (congrArg (fun z : Int => lv_has ls 4 [(3, .int (zi z)), (2, .int (zi (co + 1))), (0, .ref (ad 0 0)), (1, .int (zi k))]) (show (d + 1 : Int) = (d + 1) by omega)) hl
          have hl := Eq.mp (congrArg (fun z : Int => lv_has ls 4 [(3, .int (zi (d + 1))), (2, .int (zi z)), (0, .ref (ad 0 0)), (1, .int (zi k))]) (show (co + 1 : Int) = (co + 1) by omega)) hl
          exact ih_9 (d + 1) (co + 1) (by omega) (by omega) (by first | rw [cN_t _ (by omega) (decide_eq_true (by omega)), i2] | rw [cN_f _ (by omega) (decide_eq_false (by omega)), i2]) _ _ (by first | exact sw hW (by rw [hσ5]; exact (q3 (by omega)).2) | exact sw hW ((q4 (by omega)).1 (by omega)).2 | (rw [← ((q4 (by omega)).2 (by omega)).2]; exact gh (fun _ _ => rfl) (sw hW (by rw [hσ5])))) hS _ (lv_sub hl [0, 1, 2, 3] rfl)
  exact loop_9 (Int.toNat (6 - 0) + 1) 0 0 (by omega) (by omega) rfl _ _ (sw hW (stC_0 σ k (by omega)).symm) hS _ (lv_sub hl [0, 1, 2, 3] rfl)
set_option maxHeartbeats 4000000 in
set_option maxRecDepth 100000 in
theorem m_stop_x {l : Launch} {Dg : va_G} {cA : Nat → ClassId} {ad : Nat → Int → Nat} {oc : Nat → Nat} (hI : WI ccnt ad) (hfl : l.stackTraces = false) {N M : Int} (σ : St) (k : Int) (hv : Inv N M σ) (h1 : ¬ (0 ≤ k ∧ k < σ 27 0 0)) (hxr : -2147483648 ≤ k ∧ k < 2147483648) : GX l yX7_stop wsX7_stop ({ frames := 8, cells := 1, slots := 6, locals := 132 } : Room) Dg cA ccnt ad oc (cE cA ad σ) [.ref (ad 0 0), .int (zi k)] "java/lang/IndexOutOfBoundsException" := by
  intro sz
  refine gx_ent (cc := cX7_stop) (maxL := 4) (ret := (some .int)) (by decide) rfl hI (Nat.le_of_ble_eq_true rfl) ?_
  intro pgm env s₀ m₀ bel mth cod hX hno hW hS hsz ls hl
  subst hsz
  have hC := hX.1
  have hx := hC.1
  have hb := hC.2.1
  have hts := hC.2.2.2.1
  have hl : lv_has ls 4 [(0, .ref (ad 0 0)), (1, .int (zi k))] := hl
  refine lv_aload_n hx hb dX7_stop_0 rfl (lv_at hl 0 rfl) ?_
  refine lv_iload_n hx hb dX7_stop_1 rfl (lv_at hl 1 rfl) ?_
  exact k_callX (As := [.int (zi k)]) (rest := []) hX hno hl.1 (m_checkPlayer_x hI hfl σ k hv h1 hxr) (cwV 1 hts gX7_stop_X7_checkPlayer rfl rfl rfl (by decide +kernel) ⟨Nat.le_of_ble_eq_true rfl, Nat.le_of_ble_eq_true rfl⟩) (rc_KR hC hW) hW hS ⟨Nat.le_of_ble_eq_true rfl, Nat.le_of_ble_eq_true rfl⟩ rfl rfl (Nat.le_of_ble_eq_true rfl) dX7_stop_2
set_option maxHeartbeats 4000000 in
set_option maxRecDepth 100000 in
theorem m_stop_n {l : Launch} {Dg : va_G} {cA : Nat → ClassId} {ad : Nat → Int → Nat} {oc : Nat → Nat} (hI : WI ccnt ad) (hfl : l.stackTraces = false) {N M : Int} (σ : St) (k : Int) (hv : Inv N M σ) (hk : 0 ≤ k ∧ k < σ 27 0 0) (h2 : σ 6 k 0 = 0) : GX l yX7_stop wsX7_stop ({ frames := 8, cells := 1, slots := 6, locals := 132 } : Room) Dg cA ccnt ad oc (cE cA ad σ) [.ref (ad 0 0), .int (zi k)] "java/util/NoSuchElementException" := by
  intro sz
  refine gx_ent (cc := cX7_stop) (maxL := 4) (ret := (some .int)) (by decide) rfl hI (Nat.le_of_ble_eq_true rfl) ?_
  intro pgm env s₀ m₀ bel mth cod hX hno hW hS hsz ls hl
  subst hsz
  have hC := hX.1
  have hx := hC.1
  have hb := hC.2.1
  have hts := hC.2.2.2.1
  have hl : lv_has ls 4 [(0, .ref (ad 0 0)), (1, .int (zi k))] := hl
  refine lv_aload_n hx hb dX7_stop_0 rfl (lv_at hl 0 rfl) ?_
  refine lv_iload_n hx hb dX7_stop_1 rfl (lv_at hl 1 rfl) ?_
  exact k_callX (As := [.int (zi k)]) (rest := []) hX hno hl.1 (m_checkPlayer_n hI hfl σ k hv hk h2) (cwV 1 hts gX7_stop_X7_checkPlayer rfl rfl rfl (by decide +kernel) ⟨Nat.le_of_ble_eq_true rfl, Nat.le_of_ble_eq_true rfl⟩) (rc_KR hC hW) hW hS ⟨Nat.le_of_ble_eq_true rfl, Nat.le_of_ble_eq_true rfl⟩ rfl rfl (Nat.le_of_ble_eq_true rfl) dX7_stop_2
set_option maxHeartbeats 4000000 in
set_option maxRecDepth 100000 in
theorem m_start {l : Launch} {Dg : va_G} {cA : Nat → ClassId} {ad : Nat → Int → Nat} {oc : Nat → Nat} (hI : WI ccnt ad) {N M : Int} (σ : St) (k r : Int) (hv : Inv N M σ) (hk : 0 ≤ k ∧ k < σ 27 0 0) (hr : 0 ≤ r ∧ r < σ 26 0 0) (h6 : σ 6 k 0 = 0) : GI l yX7_start wsX7_start ({ frames := 7, cells := 0, slots := 0, locals := 111 } : Room) Dg cA ccnt ad oc (cE cA ad σ) [.ref (ad 0 0), .int (zi k), .int (zi r)] (fStart σ k r 8 k 0) (cE cA ad (fStart σ k r)) := by
  intro sz
  refine g_ent (cc := cX7_start) (maxL := 4) (ret := (some .int)) (by decide) rfl hI (Nat.le_of_ble_eq_true rfl) ?_
  intro pgm env s₀ m₀ bel mth cod hX hW hS hsz ls hl
  subst hsz
  have hC := hX.1
  have hx := hC.1
  have hb := hC.2.1
  have hts := hC.2.2.2.1
  have hl : lv_has ls 4 [(0, .ref (ad 0 0)), (1, .int (zi k)), (2, .int (zi r))] := hl
  have hin_X3 : ∀ w ∈ wsX30, w ∈ wsX7_start := by decide +kernel
  have hin_X7 : ∀ w ∈ wsX70, w ∈ wsX7_start := by decide +kernel
  have hl_11 := hts (.fieldLink RX7 11 "KioskReel" "reels" "[LKioskReel$Reel;") (by decide +kernel)
  have hl_23 := hts (.fieldLink RX7 23 "KioskReel" "players" "[LKioskReel$Player;") (by decide +kernel)
  have hl_107 := hts (.fieldLink RX7 107 "KioskReel$Player" "started" "Z") (by decide +kernel)
  have hl_125 := hts (.fieldLink RX7 125 "KioskReel$Player" "place" "I") (by decide +kernel)
  have hA := hv.A
  unfold IvA at hA
  have hs := hv.S k (by omega) (by omega)
  refine lv_aload_n hx hb dX7_start_0 rfl (lv_at hl 0 rfl) ?_
  refine lv_iload_n hx hb dX7_start_1 rfl (lv_at hl 1 rfl) ?_
  refine k_callV (As := [.int (zi k)]) (rest := []) hX hl.1 (m_checkKiosk hI σ k hk (by omega)) (cwV 1 hts gX7_start_X7_checkKiosk rfl rfl rfl (by decide +kernel) ⟨Nat.le_of_ble_eq_true rfl, Nat.le_of_ble_eq_true rfl⟩) (rc_KR hC hW) hW hS ⟨Nat.zero_le _, Nat.zero_le _⟩ rfl rfl (Nat.le_of_ble_eq_true rfl) dX7_start_2 (fun H locs hW hS _ _ => ?_)
  refine lv_aload_n hx hb dX7_start_5 rfl (lv_at hl 0 rfl) ?_
  refine lv_iload_n hx hb dX7_start_6 rfl (lv_at hl 2 rfl) ?_
  refine k_callV (As := [.int (zi r)]) (rest := []) hX hl.1 (m_checkList hI σ r hr (by omega)) (cwV 1 hts gX7_start_X7_checkList rfl rfl rfl (by decide +kernel) ⟨Nat.le_of_ble_eq_true rfl, Nat.le_of_ble_eq_true rfl⟩) (rc_KR hC hW) hW hS ⟨Nat.zero_le _, Nat.zero_le _⟩ rfl rfl (Nat.le_of_ble_eq_true rfl) dX7_start_7 (fun H locs hW hS _ _ => ?_)
  refine lv_aload_n hx hb dX7_start_10 rfl (lv_at hl 0 rfl) ?_
  refine cg_KR_players hC hW hin_X7 hl_23 dX7_start_11 ?_
  refine lv_iload_n hx hb dX7_start_14 rfl (lv_at hl 1 rfl) ?_
  refine ca_players hC hW (by omega) dX7_start_15 ?_
  refine lv_astore_n (lv' := [(3, .ref (ad 10 k)), (0, .ref (ad 0 0)), (1, .int (zi k)), (2, .int (zi r))]) hx hb dX7_start_16 rfl hl (by decide) rfl (fun ls hl => ?_)
  refine lv_aload_n hx hb dX7_start_17 rfl (lv_at hl 0 rfl) ?_
  refine cg_Player_started hC hW hin_X3 hl_107 (by omega) (v := σ 6 k 0) rfl dX7_start_18 ?_
  refine k_if_eq (tgt := 34) hC dX7_start_21 (by decide) (by omega) (fun c1 => ?_) (fun c1 => absurd c1 (by omega))
  refine lv_aload_n hx hb dX7_start_34 rfl (lv_at hl 0 rfl) ?_
  refine lv_iload_n hx hb dX7_start_35 rfl (lv_at hl 3 rfl) ?_
  refine lv_aload_n hx hb dX7_start_36 rfl (lv_at hl 1 rfl) ?_
  refine cg_KR_reels hC hW hin_X7 hl_11 dX7_start_37 ?_
  refine lv_iload_n hx hb dX7_start_40 rfl (lv_at hl 3 rfl) ?_
  refine ca_reels hC hW (by omega) dX7_start_41 ?_
  refine k_callV (As := [.int (zi r), .ref (ad 6 r)]) (rest := []) hX hl.1 (m_begin hI σ k r (by omega) (by omega) (hv.R r (by omega) (by omega)).1 (fun j a b => ((hv.R r (by omega) (by omega)).2 j a b).1)) (cwV 2 hts gX7_start_X3_begin rfl rfl rfl (by decide +kernel) ⟨Nat.le_of_ble_eq_true rfl, Nat.le_of_ble_eq_true rfl⟩) (rc_Player hC hW (by omega)) hW hS ⟨Nat.zero_le _, Nat.zero_le _⟩ rfl rfl (Nat.le_of_ble_eq_true rfl) dX7_start_42 (fun H locs hW hS _ _ => ?_)
  obtain ⟨σ1, hσ1⟩ : ∃ z, z = fBegin σ k r := ⟨_, rfl⟩
  rw [← hσ1] at hW
  have hB : Inv N M σ1 := by rw [hσ1]; exact Inv_fBegin hv (by omega) (by omega) hr.2 h6
  have b27 : σ1 27 0 0 = σ 27 0 0 := by rw [hσ1, at1 (fBegin_T σ k r) (t := 27) (by decide)]
  have b8 : σ1 8 k 0 = -1 := by rw [hσ1, at1 (fBegin_T σ k r) (t := 8) (by decide)]; omega
  have b13 : near σ1 k = near σ k := near_T (by rw [hσ1, fBegin_T σ k r 13 (by decide)]) (by rw [hσ1, fBegin_T σ k r 27 (by decide)]) k
  refine lv_aload_n hx hb dX7_start_45 rfl (lv_at hl 1 rfl) ?_
  refine lv_iload_n hx hb dX7_start_46 rfl (lv_at hl 2 rfl) ?_
  refine lv_aload_n hx hb dX7_start_47 rfl (lv_at hl 1 rfl) ?_
  refine lv_iload_n hx hb dX7_start_48 rfl (lv_at hl 2 rfl) ?_
  refine k_callI (As := [.int (zi k)]) (rest := [.int (zi k), .ref (ad 0 0)]) hX hl.1 (m_nearest hI σ1 k hB (by omega)) (cwV 1 hts gX7_start_X7_nearestNotOut rfl rfl rfl (by decide +kernel) ⟨Nat.le_of_ble_eq_true rfl, Nat.le_of_ble_eq_true rfl⟩) (rc_KR hC hW) hW hS ⟨Nat.zero_le _, Nat.zero_le _⟩ rfl rfl (Nat.le_of_ble_eq_true rfl) dX7_start_49 (fun H locs hW hS _ _ => ?_)
  refine k_callV (As := [.int (zi k), .int (zi (near σ1 k))]) (rest := []) hX hl.1 (m_settle hI σ1 k (near σ1 k) hB (by omega) (by have z := near_spec (σ := σ1) (by omega) k; omega)) (cwV 2 hts gX7_start_X7_settle rfl rfl rfl (by decide +kernel) ⟨Nat.le_of_ble_eq_true rfl, Nat.le_of_ble_eq_true rfl⟩) (rc_KR hC hW) hW hS ⟨Nat.zero_le _, Nat.zero_le _⟩ rfl rfl (Nat.le_of_ble_eq_true rfl) dX7_start_52 (fun H locs hW hS _ _ => ?_)
  obtain ⟨σ2, hσ2⟩ : ∃ z, z = fSettle σ1 k (near σ1 k) := ⟨_, rfl⟩
  rw [← hσ2] at hW
  have hst : σ2 = fStart σ k r := by rw [hσ2, b13, fSettle_no b8, hσ1]; rfl
  refine lv_aload_n hx hb dX7_start_55 rfl (lv_at hl 0 rfl) ?_
  refine cg_Player_place hC hW hin_X3 hl_125 (by omega) (v := σ2 8 k 0) rfl dX7_start_56 ?_
  have hW : WP Dg ccnt ad (cE cA ad (fStart σ k r)) _ := (sw hW hst)
  exact k_iret hX (by rw [hst]) hW hS dX7_start_59
set_option maxHeartbeats 4000000 in
set_option maxRecDepth 100000 in
theorem m_start_x {l : Launch} {Dg : va_G} {cA : Nat → ClassId} {ad : Nat → Int → Nat} {oc : Nat → Nat} (hI : WI ccnt ad) (hfl : l.stackTraces = false) {N M : Int} (σ : St) (k r : Int) (hv : Inv N M σ) (h1 : ¬ (0 ≤ k ∧ k < σ 27 0 0)) (hxr : -2147483648 ≤ k ∧ k < 2147483648) : GX l yX7_start wsX7_start ({ frames := 7, cells := 1, slots := 6, locals := 111 } : Room) Dg cA ccnt ad oc (cE cA ad σ) [.ref (ad 0 0), .int (zi k), .int (zi r)] "java/lang/IndexOutOfBoundsException" := by
  intro sz
  refine gx_ent (cc := cX7_start) (maxL := 4) (ret := (some .int)) (by decide) rfl hI (Nat.le_of_ble_eq_true rfl) ?_
  intro pgm env s₀ m₀ bel mth cod hX hno hW hS hsz ls hl
  subst hsz
  have hC := hX.1
  have hx := hC.1
  have hb := hC.2.1
  have hts := hC.2.2.2.1
  have hl : lv_has ls 4 [(0, .ref (ad 0 0)), (1, .int (zi k)), (2, .int (zi r))] := hl
  have hA := hv.A
  unfold IvA at hA
  refine lv_aload_n hx hb dX7_start_0 rfl (lv_at hl 0 rfl) ?_
  refine lv_iload_n hx hb dX7_start_1 rfl (lv_at hl 1 rfl) ?_
  exact k_callX (As := [.int (zi k)]) (rest := []) hX hno hl.1 (m_checkKiosk_x hI hfl σ k h1 (by omega) hxr) (cwV 1 hts gX7_start_X7_checkKiosk rfl rfl rfl (by decide +kernel) ⟨Nat.le_of_ble_eq_true rfl, Nat.le_of_ble_eq_true rfl⟩) (rc_KR hC hW) hW hS ⟨Nat.le_of_ble_eq_true rfl, Nat.le_of_ble_eq_true rfl⟩ rfl rfl (Nat.le_of_ble_eq_true rfl) dX7_start_2
set_option maxHeartbeats 4000000 in
set_option maxRecDepth 100000 in
theorem m_start_y {l : Launch} {Dg : va_G} {cA : Nat → ClassId} {ad : Nat → Int → Nat} {oc : Nat → Nat} (hI : WI ccnt ad) (hfl : l.stackTraces = false) {N M : Int} (σ : St) (k r : Int) (hv : Inv N M σ) (hk : 0 ≤ k ∧ k < σ 27 0 0) (h1 : ¬ (0 ≤ r ∧ r < σ 26 0 0)) (hxr : -2147483648 ≤ r ∧ r < 2147483648) : GX l yX7_start wsX7_start ({ frames := 7, cells := 1, slots := 6, locals := 111 } : Room) Dg cA ccnt ad oc (cE cA ad σ) [.ref (ad 0 0), .int (zi k), .int (zi r)] "java/lang/IndexOutOfBoundsException" := by
  intro sz
  refine gx_ent (cc := cX7_start) (maxL := 4) (ret := (some .int)) (by decide) rfl hI (Nat.le_of_ble_eq_true rfl) ?_
  intro pgm env s₀ m₀ bel mth cod hX hno hW hS hsz ls hl
  subst hsz
  have hC := hX.1
  have hx := hC.1
  have hb := hC.2.1
  have hts := hC.2.2.2.1
  have hl : lv_has ls 4 [(0, .ref (ad 0 0)), (1, .int (zi k)), (2, .int (zi r))] := hl
  have hA := hv.A
  unfold IvA at hA
  refine lv_aload_n hx hb dX7_start_0 rfl (lv_at hl 0 rfl) ?_
  refine lv_iload_n hx hb dX7_start_1 rfl (lv_at hl 1 rfl) ?_
  refine k_callV (As := [.int (zi k)]) (rest := []) hX hl.1 (m_checkKiosk hI σ k hk (by omega)) (cwV 1 hts gX7_start_X7_checkKiosk rfl rfl rfl (by decide +kernel) ⟨Nat.le_of_ble_eq_true rfl, Nat.le_of_ble_eq_true rfl⟩) (rc_KR hC hW) hW hS ⟨Nat.zero_le _, Nat.zero_le _⟩ rfl rfl (Nat.le_of_ble_eq_true rfl) dX7_start_2 (fun H locs hW hS _ _ => ?_)
  refine lv_aload_n hx hb dX7_start_5 rfl (lv_at hl 0 rfl) ?_
  refine lv_iload_n hx hb dX7_start_6 rfl (lv_at hl 2 rfl) ?_
  exact k_callX (As := [.int (zi r)]) (rest := []) hX hno hl.1 (m_checkList_x hI hfl σ r h1 (by omega) hxr) (cwV 1 hts gX7_start_X7_checkList rfl rfl rfl (by decide +kernel) ⟨Nat.le_of_ble_eq_true rfl, Nat.le_of_ble_eq_true rfl⟩) (rc_KR hC hW) hW hS ⟨Nat.le_of_ble_eq_true rfl, Nat.le_of_ble_eq_true rfl⟩ rfl rfl (Nat.le_of_ble_eq_true rfl) dX7_start_7
set_option maxHeartbeats 4000000 in
set_option maxRecDepth 100000 in
theorem m_start_s {l : Launch} {Dg : va_G} {cA : Nat → ClassId} {ad : Nat → Int → Nat} {oc : Nat → Nat} (hI : WI ccnt ad) (hfl : l.stackTraces = false) {N M : Int} (σ : St) (k r : Int) (hv : Inv N M σ) (hk : 0 ≤ k ∧ k < σ 27 0 0) (hr : 0 ≤ r ∧ r < σ 26 0 0) (h6 : σ 6 k 0 = 1) : GX l yX7_start wsX7_start ({ frames := 7, cells := 1, slots := 6, locals := 111 } : Room) Dg cA ccnt ad oc (cE cA ad σ) [.ref (ad 0 0), .int (zi k), .int (zi r)] "java/lang/IllegalStateException" := by
  intro sz
  refine gx_ent (cc := cX7_start) (maxL := 4) (ret := (some .int)) (by decide) rfl hI (Nat.le_of_ble_eq_true rfl) ?_
  intro pgm env s₀ m₀ bel mth cod hX hno hW hS hsz ls hl
  subst hsz
  have hC := hX.1
  have hx := hC.1
  have hb := hC.2.1
  have hts := hC.2.2.2.1
  have hl : lv_has ls 4 [(0, .ref (ad 0 0)), (1, .int (zi k)), (2, .int (zi r))] := hl
  have hin_X3 : ∀ w ∈ wsX30, w ∈ wsX7_start := by decide +kernel
  have hin_X7 : ∀ w ∈ wsX70, w ∈ wsX7_start := by decide +kernel
  have hl_23 := hts (.fieldLink RX7 23 "KioskReel" "players" "[LKioskReel$Player;") (by decide +kernel)
  have hl_107 := hts (.fieldLink RX7 107 "KioskReel$Player" "started" "Z") (by decide +kernel)
  have hA := hv.A
  unfold IvA at hA
  refine lv_aload_n hx hb dX7_start_0 rfl (lv_at hl 0 rfl) ?_
  refine lv_iload_n hx hb dX7_start_1 rfl (lv_at hl 1 rfl) ?_
  refine k_callV (As := [.int (zi k)]) (rest := []) hX hl.1 (m_checkKiosk hI σ k hk (by omega)) (cwV 1 hts gX7_start_X7_checkKiosk rfl rfl rfl (by decide +kernel) ⟨Nat.le_of_ble_eq_true rfl, Nat.le_of_ble_eq_true rfl⟩) (rc_KR hC hW) hW hS ⟨Nat.zero_le _, Nat.zero_le _⟩ rfl rfl (Nat.le_of_ble_eq_true rfl) dX7_start_2 (fun H locs hW hS _ _ => ?_)
  refine lv_aload_n hx hb dX7_start_5 rfl (lv_at hl 0 rfl) ?_
  refine lv_iload_n hx hb dX7_start_6 rfl (lv_at hl 2 rfl) ?_
  refine k_callV (As := [.int (zi r)]) (rest := []) hX hl.1 (m_checkList hI σ r hr (by omega)) (cwV 1 hts gX7_start_X7_checkList rfl rfl rfl (by decide +kernel) ⟨Nat.le_of_ble_eq_true rfl, Nat.le_of_ble_eq_true rfl⟩) (rc_KR hC hW) hW hS ⟨Nat.zero_le _, Nat.zero_le _⟩ rfl rfl (Nat.le_of_ble_eq_true rfl) dX7_start_7 (fun H locs hW hS _ _ => ?_)
  refine lv_aload_n hx hb dX7_start_10 rfl (lv_at hl 0 rfl) ?_
  refine cg_KR_players hC hW hin_X7 hl_23 dX7_start_11 ?_
  refine lv_iload_n hx hb dX7_start_14 rfl (lv_at hl 1 rfl) ?_
  refine ca_players hC hW (by omega) dX7_start_15 ?_
  refine lv_astore_n (lv' := [(3, .ref (ad 10 k)), (0, .ref (ad 0 0)), (1, .int (zi k)), (2, .int (zi r))]) hx hb dX7_start_16 rfl hl (by decide) rfl (fun ls hl => ?_)
  refine lv_aload_n hx hb dX7_start_17 rfl (lv_at hl 0 rfl) ?_
  refine cg_Player_started hC hW hin_X3 hl_107 (by omega) (v := σ 6 k 0) rfl dX7_start_18 ?_
  refine k_if_eq (tgt := 34) hC dX7_start_21 (by decide) (by omega) (fun c1 => absurd c1 (by omega)) (fun c1 => ?_)
  exact k_throw (rest := []) (text := "the kiosk has a player") hX rfl hno hl.1 hfl (by decide +kernel) (by decide +kernel) (by decide +kernel) (by decide +kernel) (by decide +kernel) (by decide +kernel) (by decide +kernel) hW hS dX7_start_24 dX7_start_27 dX7_start_28 dX7_start_30 dX7_start_33 ⟨Nat.le_of_ble_eq_true rfl, Nat.le_of_ble_eq_true rfl, Nat.le_of_ble_eq_true rfl, Nat.le_of_ble_eq_true rfl⟩
end M4
