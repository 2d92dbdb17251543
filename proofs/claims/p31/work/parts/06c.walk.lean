section M3
set_option maxHeartbeats 4000000 in
set_option maxRecDepth 100000 in
theorem m_leave {l : Launch} {Dg : va_G} {cA : Nat → ClassId} {ad : Nat → Int → Nat} {oc : Nat → Nat} (hI : WI ccnt ad) (σ : St) (p : Int) (hp : 0 ≤ p ∧ p < 6) (hW0 : IvW σ) (h8 : -1 ≤ σ 8 p 0 ∧ σ 8 p 0 < 6) (hm : σ 8 p 0 ≠ -1 → mem σ (σ 8 p 0) p) : GV l yX7_leave wsX7_leave ({ frames := 1, cells := 0, slots := 0, locals := 23 } : Room) Dg cA ccnt ad oc (cE cA ad σ) [.ref (ad 0 0), .int (zi p)] (cE cA ad (fLeave σ p)) := by
  intro sz
  refine g_ent (cc := cX7_leave) (maxL := 3) (ret := none) (by decide) rfl hI (Nat.le_of_ble_eq_true rfl) ?_
  intro pgm env s₀ m₀ bel mth cod hX hW hS hsz ls hl
  subst hsz
  have hC := hX.1
  have hx := hC.1
  have hb := hC.2.1
  have hts := hC.2.2.2.1
  have hl : lv_has ls 3 [(0, .ref (ad 0 0)), (1, .int (zi p))] := hl
  have hin_X1 : ∀ w ∈ wsX10, w ∈ wsX7_leave := by decide +kernel
  have hin_X3 : ∀ w ∈ wsX30, w ∈ wsX7_leave := by decide +kernel
  have hin_X7 : ∀ w ∈ wsX70, w ∈ wsX7_leave := by decide +kernel
  have hl_17 := hts (.fieldLink RX7 17 "KioskReel" "kiosks" "[LKioskReel$Kiosk;") (by decide +kernel)
  have hl_23 := hts (.fieldLink RX7 23 "KioskReel" "players" "[LKioskReel$Player;") (by decide +kernel)
  have hl_125 := hts (.fieldLink RX7 125 "KioskReel$Player" "place" "I") (by decide +kernel)
  have hl_161 := hts (.fieldLink RX7 161 "KioskReel$Kiosk" "playing" "LKioskReel$PlayerRow;") (by decide +kernel)
  refine lv_aload_n hx hb dX7_leave_0 rfl (lv_at hl 0 rfl) ?_
  refine cg_KR_players hC hW hin_X7 hl_23 dX7_leave_1 ?_
  refine lv_iload_n hx hb dX7_leave_4 rfl (lv_at hl 1 rfl) ?_
  refine ca_players hC hW (by omega) dX7_leave_5 ?_
  refine lv_astore_n (lv' := [(2, .ref (ad 10 p)), (0, .ref (ad 0 0)), (1, .int (zi p))]) hx hb dX7_leave_6 rfl hl (by decide) rfl (fun ls hl => ?_)
  refine lv_aload_n hx hb dX7_leave_7 rfl (lv_at hl 0 rfl) ?_
  refine cg_Player_place hC hW hin_X3 hl_125 (by omega) (v := σ 8 p 0) rfl dX7_leave_8 ?_
  refine k_iconst hC dX7_leave_11 ?_
  refine k_icmp_eq (tgt := 36) hC dX7_leave_12 (by decide) (by omega) (fun c1 => ?_) (fun c1 => ?_)
  · have hW : WP Dg ccnt ad (cE cA ad (fLeave σ p)) _ := (sw hW (by first | rw [fLeave, if_pos (by omega)] | rw [fLeave, if_neg (by omega)]))
    exact k_vret hX hW hS dX7_leave_36
  · refine lv_aload_n hx hb dX7_leave_15 rfl (lv_at hl 1 rfl) ?_
    refine cg_KR_kiosks hC hW hin_X7 hl_17 dX7_leave_16 ?_
    refine lv_aload_n hx hb dX7_leave_19 rfl (lv_at hl 0 rfl) ?_
    refine cg_Player_place hC hW hin_X3 hl_125 (by omega) (v := σ 8 p 0) rfl dX7_leave_20 ?_
    refine ca_kiosks hC hW (by omega) dX7_leave_23 ?_
    refine cg_Kiosk_playing hC hW hin_X1 hl_161 (by omega) dX7_leave_24 ?_
    refine lv_iload_n hx hb dX7_leave_27 rfl (lv_at hl 2 rfl) ?_
    obtain ⟨w1, w2, w3⟩ := hW0 (σ 8 p 0) (by omega) (by omega)
    obtain ⟨i1, i2, i3, i4⟩ := idx_spec (hm (by omega))
    refine k_callV (As := [.int (zi p)]) (rest := []) hX hl.1 (m_remove hI σ (σ 8 p 0) p (idx σ (σ 8 p 0) p) (by omega) w1 (by omega) w2 ⟨i1, i2⟩ i3 (fun j a b c => w3 j _ a b i1 i2 (c.trans i3.symm))) (cwV 1 hts gX7_leave_X4_remove rfl rfl rfl (by decide +kernel) ⟨Nat.le_of_ble_eq_true rfl, Nat.le_of_ble_eq_true rfl⟩) (rc_Row hC hW (by omega)) hW hS ⟨Nat.zero_le _, Nat.zero_le _⟩ rfl rfl (Nat.le_of_ble_eq_true rfl) dX7_leave_28 (fun H locs hW hS _ _ => ?_)
    obtain ⟨σ1, hσ1⟩ : ∃ z, z = rAt σ (σ 8 p 0) (idx σ (σ 8 p 0) p) := ⟨_, rfl⟩
    rw [← hσ1] at hW
    refine lv_aload_n hx hb dX7_leave_31 rfl (lv_at hl 0 rfl) ?_
    refine k_iconst hC dX7_leave_32 ?_
    refine cp_Player_place hC hW hin_X3 hl_125 (by omega) hS dX7_leave_33 (fun H locs hW hS => ?_)
    obtain ⟨σ2, hσ2⟩ : ∃ z, z = ups σ1 8 p 0 (-1) := ⟨_, rfl⟩
    rw [← hσ2] at hW
    have hW : WP Dg ccnt ad (cE cA ad (fLeave σ p)) _ := (sw hW (by first | rw [hσ2, hσ1, fLeave, if_pos (by omega)] | rw [hσ2, hσ1, fLeave, if_neg (by omega)]))
    exact k_vret hX hW hS dX7_leave_36
set_option maxHeartbeats 4000000 in
set_option maxRecDepth 100000 in
theorem m_settle {l : Launch} {Dg : va_G} {cA : Nat → ClassId} {ad : Nat → Int → Nat} {oc : Nat → Nat} (hI : WI ccnt ad) {N M : Int} (σ : St) (p k : Int) (hv : Inv N M σ) (hp : 0 ≤ p ∧ p < 6) (hk : k = -1 ∨ (0 ≤ k ∧ k < σ 27 0 0)) : GV l yX7_settle wsX7_settle ({ frames := 2, cells := 0, slots := 0, locals := 45 } : Room) Dg cA ccnt ad oc (cE cA ad σ) [.ref (ad 0 0), .int (zi p), .int (zi k)] (cE cA ad (fSettle σ p k)) := by
  intro sz
  refine g_ent (cc := cX7_settle) (maxL := 3) (ret := none) (by decide) rfl hI (Nat.le_of_ble_eq_true rfl) ?_
  intro pgm env s₀ m₀ bel mth cod hX hW hS hsz ls hl
  subst hsz
  have hC := hX.1
  have hx := hC.1
  have hb := hC.2.1
  have hts := hC.2.2.2.1
  have hl : lv_has ls 3 [(0, .ref (ad 0 0)), (1, .int (zi p)), (2, .int (zi k))] := hl
  have hin_X1 : ∀ w ∈ wsX10, w ∈ wsX7_settle := by decide +kernel
  have hin_X3 : ∀ w ∈ wsX30, w ∈ wsX7_settle := by decide +kernel
  have hin_X7 : ∀ w ∈ wsX70, w ∈ wsX7_settle := by decide +kernel
  have hl_17 := hts (.fieldLink RX7 17 "KioskReel" "kiosks" "[LKioskReel$Kiosk;") (by decide +kernel)
  have hl_23 := hts (.fieldLink RX7 23 "KioskReel" "players" "[LKioskReel$Player;") (by decide +kernel)
  have hl_125 := hts (.fieldLink RX7 125 "KioskReel$Player" "place" "I") (by decide +kernel)
  have hl_161 := hts (.fieldLink RX7 161 "KioskReel$Kiosk" "playing" "LKioskReel$PlayerRow;") (by decide +kernel)
  have hA := hv.A
  unfold IvA at hA
  have hs := hv.S p hp.1 hp.2
  refine lv_aload_n hx hb dX7_settle_0 rfl (lv_at hl 0 rfl) ?_
  refine lv_iload_n hx hb dX7_settle_1 rfl (lv_at hl 1 rfl) ?_
  refine k_callV (As := [.int (zi p)]) (rest := []) hX hl.1 (m_leave hI σ p hp hv.W (by omega) (fun z => (mem_rows hv hp z).2)) (cwV 1 hts gX7_settle_X7_leave rfl rfl rfl (by decide +kernel) ⟨Nat.le_of_ble_eq_true rfl, Nat.le_of_ble_eq_true rfl⟩) (rc_KR hC hW) hW hS ⟨Nat.zero_le _, Nat.zero_le _⟩ rfl rfl (Nat.le_of_ble_eq_true rfl) dX7_settle_2 (fun H locs hW hS _ _ => ?_)
  obtain ⟨σ1, hσ1⟩ : ∃ z, z = fLeave σ p := ⟨_, rfl⟩
  rw [← hσ1] at hW
  refine lv_aload_n hx hb dX7_settle_5 rfl (lv_at hl 0 rfl) ?_
  refine cg_KR_players hC hW hin_X7 hl_23 dX7_settle_6 ?_
  refine lv_iload_n hx hb dX7_settle_9 rfl (lv_at hl 1 rfl) ?_
  refine ca_players hC hW (by omega) dX7_settle_10 ?_
  refine lv_iload_n hx hb dX7_settle_11 rfl (lv_at hl 2 rfl) ?_
  refine cp_Player_place hC hW hin_X3 hl_125 (by omega) hS dX7_settle_12 (fun H locs hW hS => ?_)
  obtain ⟨σ2, hσ2⟩ : ∃ z, z = ups σ1 8 p 0 k := ⟨_, rfl⟩
  rw [← hσ2] at hW
  refine lv_iload_n hx hb dX7_settle_15 rfl (lv_at hl 2 rfl) ?_
  refine lv_iload_n hx hb dX7_settle_16 rfl (lv_at hl 1 rfl) ?_
  refine k_icmp_ne (tgt := 36) hC dX7_settle_17 (by decide) (by omega) (fun c1 => ?_) (fun c1 => ?_)
  · refine lv_iload_n hx hb dX7_settle_36 rfl (lv_at hl 2 rfl) ?_
    refine k_iconst hC dX7_settle_37 ?_
    refine k_icmp_eq (tgt := 54) hC dX7_settle_38 (by decide) (by omega) (fun c2 => ?_) (fun c2 => ?_)
    · have hW : WP Dg ccnt ad (cE cA ad (fSettle σ p k)) _ := (sw hW (by rw [hσ2, hσ1, fSettle, fCome]; first | rw [if_pos (by omega)] | rw [if_neg (by omega), if_pos (by omega)] | rw [if_neg (by omega), if_neg (by omega)]))
      exact k_vret hX hW hS dX7_settle_54
    · refine lv_aload_n hx hb dX7_settle_41 rfl (lv_at hl 0 rfl) ?_
      refine cg_KR_kiosks hC hW hin_X7 hl_17 dX7_settle_42 ?_
      refine lv_iload_n hx hb dX7_settle_45 rfl (lv_at hl 2 rfl) ?_
      refine ca_kiosks hC hW (by omega) dX7_settle_46 ?_
      refine cg_Kiosk_playing hC hW hin_X1 hl_161 (by omega) dX7_settle_47 ?_
      refine lv_iload_n hx hb dX7_settle_50 rfl (lv_at hl 1 rfl) ?_
      have hL := Inv_fLeave hv hp
      have hr : 0 ≤ σ2 17 k 0 ∧ σ2 17 k 0 < 6 := by
        rw [hσ2, ups_t _ (by decide), hσ1]
        exact ⟨(hL.W k (by omega) (by omega)).1.1, room_of hL hp (by omega) (by rw [fLeave_8, if_pos rfl]; omega)⟩
      refine k_callV (As := [.int (zi p)]) (rest := []) hX hl.1 (m_addLast hI σ2 k p (by omega) hr) (cwV 1 hts gX7_settle_X4_addLast rfl rfl rfl (by decide +kernel) ⟨Nat.le_of_ble_eq_true rfl, Nat.le_of_ble_eq_true rfl⟩) (rc_Row hC hW (by omega)) hW hS ⟨Nat.zero_le _, Nat.zero_le _⟩ rfl rfl (Nat.le_of_ble_eq_true rfl) dX7_settle_51 (fun H locs hW hS _ _ => ?_)
      obtain ⟨σ3, hσ3⟩ : ∃ z, z = aLast σ2 k p := ⟨_, rfl⟩
      rw [← hσ3] at hW
      have hW : WP Dg ccnt ad (cE cA ad (fSettle σ p k)) _ := (sw hW (by rw [hσ3, hσ2, hσ1, fSettle, fCome]; first | rw [if_pos (by omega)] | rw [if_neg (by omega), if_pos (by omega)] | rw [if_neg (by omega), if_neg (by omega)]))
      exact k_vret hX hW hS dX7_settle_54
  · refine lv_aload_n hx hb dX7_settle_20 rfl (lv_at hl 0 rfl) ?_
    refine cg_KR_kiosks hC hW hin_X7 hl_17 dX7_settle_21 ?_
    refine lv_iload_n hx hb dX7_settle_24 rfl (lv_at hl 2 rfl) ?_
    refine ca_kiosks hC hW (by omega) dX7_settle_25 ?_
    refine cg_Kiosk_playing hC hW hin_X1 hl_161 (by omega) dX7_settle_26 ?_
    refine lv_iload_n hx hb dX7_settle_29 rfl (lv_at hl 1 rfl) ?_
    have hL := Inv_fLeave hv hp
    have hr : 0 ≤ σ2 17 k 0 ∧ σ2 17 k 0 < 6 := by
      rw [hσ2, ups_t _ (by decide), hσ1]
      exact ⟨(hL.W k (by omega) (by omega)).1.1, room_of hL hp (by omega) (by rw [fLeave_8, if_pos rfl]; omega)⟩
    refine k_callV (As := [.int (zi p)]) (rest := []) hX hl.1 (m_addFirst hI σ2 k p (by omega) hr) (cwV 1 hts gX7_settle_X4_addFirst rfl rfl rfl (by decide +kernel) ⟨Nat.le_of_ble_eq_true rfl, Nat.le_of_ble_eq_true rfl⟩) (rc_Row hC hW (by omega)) hW hS ⟨Nat.zero_le _, Nat.zero_le _⟩ rfl rfl (Nat.le_of_ble_eq_true rfl) dX7_settle_30 (fun H locs hW hS _ _ => ?_)
    obtain ⟨σ4, hσ4⟩ : ∃ z, z = aFirst σ2 k p := ⟨_, rfl⟩
    rw [← hσ4] at hW
    refine lv_goto (tgt := 54) hx hb dX7_settle_33 (by decide) ?_
    have hW : WP Dg ccnt ad (cE cA ad (fSettle σ p k)) _ := (sw hW (by rw [hσ4, hσ2, hσ1, fSettle, fCome]; first | rw [if_pos (by omega)] | rw [if_neg (by omega), if_pos (by omega)] | rw [if_neg (by omega), if_neg (by omega)]))
    exact k_vret hX hW hS dX7_settle_54
set_option maxHeartbeats 4000000 in
set_option maxRecDepth 100000 in
theorem m_passOn {l : Launch} {Dg : va_G} {cA : Nat → ClassId} {ad : Nat → Int → Nat} {oc : Nat → Nat} (hI : WI ccnt ad) (σ : St) (d : Int) (hd : 0 ≤ d ∧ d < 6) (hW0 : IvW σ) : GV l yX7_passOn wsX7_passOn ({ frames := 1, cells := 0, slots := 0, locals := 23 } : Room) Dg cA ccnt ad oc (cE cA ad σ) [.ref (ad 0 0), .int (zi d)] (cE cA ad (fPass σ d)) := by
  intro sz
  refine g_ent (cc := cX7_passOn) (maxL := 3) (ret := none) (by decide) rfl hI (Nat.le_of_ble_eq_true rfl) ?_
  intro pgm env s₀ m₀ bel mth cod hX hW hS hsz ls hl
  subst hsz
  have hC := hX.1
  have hx := hC.1
  have hb := hC.2.1
  have hts := hC.2.2.2.1
  have hl : lv_has ls 3 [(0, .ref (ad 0 0)), (1, .int (zi d))] := hl
  have hin_X0 : ∀ w ∈ wsX00, w ∈ wsX7_passOn := by decide +kernel
  have hin_X3 : ∀ w ∈ wsX30, w ∈ wsX7_passOn := by decide +kernel
  have hin_X4 : ∀ w ∈ wsX40, w ∈ wsX7_passOn := by decide +kernel
  have hin_X7 : ∀ w ∈ wsX70, w ∈ wsX7_passOn := by decide +kernel
  have hl_23 := hts (.fieldLink RX7 23 "KioskReel" "players" "[LKioskReel$Player;") (by decide +kernel)
  have hl_29 := hts (.fieldLink RX7 29 "KioskReel" "devices" "[LKioskReel$Device;") (by decide +kernel)
  have hl_131 := hts (.fieldLink RX7 131 "KioskReel$Device" "owner" "I") (by decide +kernel)
  have hl_137 := hts (.fieldLink RX7 137 "KioskReel$Device" "queue" "LKioskReel$PlayerRow;") (by decide +kernel)
  have hl_164 := hts (.fieldLink RX7 164 "KioskReel$PlayerRow" "size" "I") (by decide +kernel)
  have hl_170 := hts (.fieldLink RX7 170 "KioskReel$PlayerRow" "members" "[I") (by decide +kernel)
  have hl_184 := hts (.fieldLink RX7 184 "KioskReel$Player" "awaitedDevice" "I") (by decide +kernel)
  obtain ⟨w1, w2, w3⟩ := hW0 (6 + d) (by omega) (by omega)
  have w4 := w2 0 (by omega) (by omega)
  refine lv_aload_n hx hb dX7_passOn_0 rfl (lv_at hl 0 rfl) ?_
  refine cg_KR_devices hC hW hin_X7 hl_29 dX7_passOn_1 ?_
  refine lv_iload_n hx hb dX7_passOn_4 rfl (lv_at hl 1 rfl) ?_
  refine ca_devices hC hW (by omega) dX7_passOn_5 ?_
  refine lv_astore_n (lv' := [(2, .ref (ad 13 d)), (0, .ref (ad 0 0)), (1, .int (zi d))]) hx hb dX7_passOn_6 rfl hl (by decide) rfl (fun ls hl => ?_)
  refine lv_aload_n hx hb dX7_passOn_7 rfl (lv_at hl 0 rfl) ?_
  refine k_iconst hC dX7_passOn_8 ?_
  refine cp_Device_owner hC hW hin_X0 hl_131 (by omega) hS dX7_passOn_9 (fun H locs hW hS => ?_)
  obtain ⟨σ1, hσ1⟩ : ∃ z, z = ups σ 18 d 0 (-1) := ⟨_, rfl⟩
  rw [← hσ1] at hW
  refine lv_aload_n hx hb dX7_passOn_12 rfl (lv_at hl 0 rfl) ?_
  refine cg_Device_queue hC hW hin_X0 hl_137 (by omega) dX7_passOn_13 ?_
  refine cg_Row_size hC hW hin_X4 hl_164 (by omega) (v := σ 17 (6 + d) 0) (by rw [hσ1, ups_t _ (by decide)]) dX7_passOn_16 ?_
  refine k_if_le (tgt := 59) hC dX7_passOn_19 (by decide) (by omega) (fun c1 => ?_) (fun c1 => ?_)
  · have hW : WP Dg ccnt ad (cE cA ad (fPass σ d)) _ := (by first | exact sw hW (by rw [hσ1, fPass, if_pos (by omega)]) | exact fPass_end hW (by omega) (by rw [hσ1]))
    exact k_vret hX hW hS dX7_passOn_59
  · refine lv_aload_n hx hb dX7_passOn_22 rfl (lv_at hl 0 rfl) ?_
    refine lv_aload_n hx hb dX7_passOn_23 rfl (lv_at hl 0 rfl) ?_
    refine cg_Device_queue hC hW hin_X0 hl_137 (by omega) dX7_passOn_24 ?_
    refine cg_Row_members hC hW hin_X4 hl_170 (by omega) dX7_passOn_27 ?_
    refine k_iconst hC dX7_passOn_30 ?_
    refine ca_members hC hW (by omega) (by omega) (v := σ 16 (6 + d) 0) (by rw [hσ1, ups_t _ (by decide)]) dX7_passOn_31 ?_
    refine cp_Device_owner hC hW hin_X0 hl_131 (by omega) hS dX7_passOn_32 (fun H locs hW hS => ?_)
    obtain ⟨σ2, hσ2⟩ : ∃ z, z = ups σ1 18 d 0 (σ 16 (6 + d) 0) := ⟨_, rfl⟩
    rw [← hσ2] at hW
    refine lv_aload_n hx hb dX7_passOn_35 rfl (lv_at hl 0 rfl) ?_
    refine cg_Device_queue hC hW hin_X0 hl_137 (by omega) dX7_passOn_36 ?_
    refine lv_aload_n hx hb dX7_passOn_39 rfl (lv_at hl 0 rfl) ?_
    refine cg_Device_owner hC hW hin_X0 hl_131 (by omega) (v := σ 16 (6 + d) 0) (by rw [hσ2, ups_eq]) dX7_passOn_40 ?_
    refine k_callV (As := [.int (zi (σ 16 (6 + d) 0))]) (rest := []) hX hl.1 (m_remove hI σ2 (6 + d) (σ 16 (6 + d) 0) 0 (by omega) (by rw [hσ2, ups_t _ (by decide), hσ1, ups_t _ (by decide)]; omega) (by omega) (fun j a b => by rw [hσ2, ups_t _ (by decide), hσ1, ups_t _ (by decide)]; exact w2 j a b) (by rw [hσ2, ups_t _ (by decide), hσ1, ups_t _ (by decide)]; omega) (by rw [hσ2, ups_t _ (by decide), hσ1, ups_t _ (by decide)]) (fun j a b c => by rw [hσ2, ups_t _ (by decide), hσ1, ups_t _ (by decide)] at b c; exact w3 j 0 a b (by omega) (by omega) c)) (cwV 1 hts gX7_passOn_X4_remove rfl rfl rfl (by decide +kernel) ⟨Nat.le_of_ble_eq_true rfl, Nat.le_of_ble_eq_true rfl⟩) (rc_Row hC hW (by omega)) hW hS ⟨Nat.zero_le _, Nat.zero_le _⟩ rfl rfl (Nat.le_of_ble_eq_true rfl) dX7_passOn_43 (fun H locs hW hS _ _ => ?_)
    obtain ⟨σ3, hσ3⟩ : ∃ z, z = rAt σ2 (6 + d) 0 := ⟨_, rfl⟩
    rw [← hσ3] at hW
    refine lv_aload_n hx hb dX7_passOn_46 rfl (lv_at hl 1 rfl) ?_
    refine cg_KR_players hC hW hin_X7 hl_23 dX7_passOn_47 ?_
    refine lv_aload_n hx hb dX7_passOn_50 rfl (lv_at hl 0 rfl) ?_
    refine cg_Device_owner hC hW hin_X0 hl_131 (by omega) (v := σ 16 (6 + d) 0) (by rw [hσ3, rAt_o _ _ _ (by decide) (by decide), hσ2, ups_eq]) dX7_passOn_51 ?_
    refine ca_players hC hW (by omega) dX7_passOn_54 ?_
    refine k_iconst hC dX7_passOn_55 ?_
    refine cp_Player_awaitedDevice hC hW hin_X3 hl_184 (by omega) hS dX7_passOn_56 (fun H locs hW hS => ?_)
    obtain ⟨σ4, hσ4⟩ : ∃ z, z = ups σ3 11 (σ 16 (6 + d) 0) 0 (-1) := ⟨_, rfl⟩
    rw [← hσ4] at hW
    have hW : WP Dg ccnt ad (cE cA ad (fPass σ d)) _ := (by first | exact sw hW (by rw [hσ4, hσ3, hσ2, hσ1, fPass, if_pos (by omega)]) | exact fPass_end hW (by omega) (by rw [hσ4, hσ3, hσ2, hσ1]))
    exact k_vret hX hW hS dX7_passOn_59
set_option maxHeartbeats 4000000 in
set_option maxRecDepth 100000 in
theorem m_lease {l : Launch} {Dg : va_G} {cA : Nat → ClassId} {ad : Nat → Int → Nat} {oc : Nat → Nat} (hI : WI ccnt ad) {N M : Int} (σ : St) (p d : Int) (hv : Inv N M σ) (hp : 0 ≤ p ∧ p < 6) (hd : 0 ≤ d ∧ d < 6) (ha : σ 11 p 0 = -1) : GR l yX7_lease wsX7_lease ({ frames := 1, cells := 0, slots := 0, locals := 23 } : Room) Dg cA ccnt ad oc (cE cA ad σ) [.ref (ad 0 0), .ref (ad 10 p), .int (zi p), .int (zi d)] (oLease σ p d) (cE cA ad (fLease σ p d)) := by
  intro sz
  refine g_ent (cc := cX7_lease) (maxL := 5) (ret := (some (.object "KioskReel$Outcome"))) (by decide) rfl hI (Nat.le_of_ble_eq_true rfl) ?_
  intro pgm env s₀ m₀ bel mth cod hX hW hS hsz ls hl
  subst hsz
  have hC := hX.1
  have hx := hC.1
  have hb := hC.2.1
  have hts := hC.2.2.2.1
  have hl : lv_has ls 5 [(0, .ref (ad 0 0)), (1, .ref (ad 10 p)), (2, .int (zi p)), (3, .int (zi d))] := hl
  have hin_X0 : ∀ w ∈ wsX00, w ∈ wsX7_lease := by decide +kernel
  have hin_X3 : ∀ w ∈ wsX30, w ∈ wsX7_lease := by decide +kernel
  have hin_X7 : ∀ w ∈ wsX70, w ∈ wsX7_lease := by decide +kernel
  have hl_29 := hts (.fieldLink RX7 29 "KioskReel" "devices" "[LKioskReel$Device;") (by decide +kernel)
  have hl_131 := hts (.fieldLink RX7 131 "KioskReel$Device" "owner" "I") (by decide +kernel)
  have hl_137 := hts (.fieldLink RX7 137 "KioskReel$Device" "queue" "LKioskReel$PlayerRow;") (by decide +kernel)
  have hl_184 := hts (.fieldLink RX7 184 "KioskReel$Player" "awaitedDevice" "I") (by decide +kernel)
  have hl_276 := hts (.fieldLink RX7 276 "KioskReel$Outcome" "GOES_ON" "LKioskReel$Outcome;") (by decide +kernel)
  have hl_319 := hts (.fieldLink RX7 319 "KioskReel$Outcome" "ENDS_TURN" "LKioskReel$Outcome;") (by decide +kernel)
  have hO := (hv.O.1 d hd.1 hd.2).1
  have hh := held_rng σ p
  refine lv_aload_n hx hb dX7_lease_0 rfl (lv_at hl 0 rfl) ?_
  refine cg_KR_devices hC hW hin_X7 hl_29 dX7_lease_1 ?_
  refine lv_iload_n hx hb dX7_lease_4 rfl (lv_at hl 3 rfl) ?_
  refine ca_devices hC hW (by omega) dX7_lease_5 ?_
  refine lv_astore (lv' := [(4, .ref (ad 13 d)), (0, .ref (ad 0 0)), (1, .ref (ad 10 p)), (2, .int (zi p)), (3, .int (zi d))]) hx hb dX7_lease_6 hl (by decide) rfl (fun ls hl => ?_)
  refine lv_aload hx hb dX7_lease_8 (lv_at hl 0 rfl) ?_
  refine cg_Device_owner hC hW hin_X0 hl_131 (by omega) (v := σ 18 d 0) rfl dX7_lease_10 ?_
  refine lv_iload_n hx hb dX7_lease_13 rfl (lv_at hl 3 rfl) ?_
  refine k_icmp_eq (tgt := 26) hC dX7_lease_14 (by decide) (by omega) (fun c1 => ?_) (fun c1 => ?_)
  · refine k_out 0 hX hS (by decide) hl_276 dX7_lease_26 ?_
    have hW : WP Dg ccnt ad (cE cA ad (fLease σ p d)) _ := (sw hW (by rw [fLease, if_pos (by omega)]))
    exact k_aret2 hX (by rw [oLease, if_pos (by omega)]) hW hS dX7_lease_29 ⟨_, rfl⟩
  · refine lv_aload_n hx hb dX7_lease_17 rfl (lv_at hl 1 rfl) ?_
    refine lv_iload_n hx hb dX7_lease_18 rfl (lv_at hl 3 rfl) ?_
    refine k_callI (As := [.int (zi p)]) (rest := []) hX hl.1 (m_devicesOf hI σ p hv hp) (cwV 1 hts gX7_lease_X7_devicesOf rfl rfl rfl (by decide +kernel) ⟨Nat.le_of_ble_eq_true rfl, Nat.le_of_ble_eq_true rfl⟩) (rc_KR hC hW) hW hS ⟨Nat.zero_le _, Nat.zero_le _⟩ rfl rfl (Nat.le_of_ble_eq_true rfl) dX7_lease_19 (fun H locs hW hS _ _ => ?_)
    refine k_iconst hC dX7_lease_22 ?_
    refine k_icmp_lt (tgt := 30) hC dX7_lease_23 (by decide) (by omega) (fun c2 => ?_) (fun c2 => ?_)
    · refine lv_aload hx hb dX7_lease_30 (lv_at hl 0 rfl) ?_
      refine cg_Device_owner hC hW hin_X0 hl_131 (by omega) (v := σ 18 d 0) rfl dX7_lease_32 ?_
      refine k_iconst hC dX7_lease_35 ?_
      refine k_icmp_ne (tgt := 49) hC dX7_lease_36 (by decide) (by omega) (fun c3 => ?_) (fun c3 => ?_)
      · refine lv_aload hx hb dX7_lease_49 (lv_at hl 0 rfl) ?_
        refine cg_Device_queue hC hW hin_X0 hl_137 (by omega) dX7_lease_51 ?_
        refine lv_iload_n hx hb dX7_lease_54 rfl (lv_at hl 3 rfl) ?_
        have hr : 0 ≤ σ 17 (6 + d) 0 ∧ σ 17 (6 + d) 0 < 6 := ⟨(hv.W (6 + d) (by omega) (by omega)).1.1, room (w := 6 + d) (p := p) hv.W (by omega) (by omega) (fun z => by have := ((hv.Q d p hd.1 hd.2 hp.1 hp.2).mp z).2; omega)⟩
        refine k_callV (As := [.int (zi p)]) (rest := []) hX hl.1 (m_addLast hI σ (6 + d) p (by omega) hr) (cwV 1 hts gX7_lease_X4_addLast rfl rfl rfl (by decide +kernel) ⟨Nat.le_of_ble_eq_true rfl, Nat.le_of_ble_eq_true rfl⟩) (rc_Row hC hW (by omega)) hW hS ⟨Nat.zero_le _, Nat.zero_le _⟩ rfl rfl (Nat.le_of_ble_eq_true rfl) dX7_lease_55 (fun H locs hW hS _ _ => ?_)
        obtain ⟨σ1, hσ1⟩ : ∃ z, z = aLast σ (6 + d) p := ⟨_, rfl⟩
        rw [← hσ1] at hW
        refine lv_aload_n hx hb dX7_lease_58 rfl (lv_at hl 2 rfl) ?_
        refine lv_iload_n hx hb dX7_lease_59 rfl (lv_at hl 4 rfl) ?_
        refine cp_Player_awaitedDevice hC hW hin_X3 hl_184 (by omega) hS dX7_lease_60 (fun H locs hW hS => ?_)
        obtain ⟨σ2, hσ2⟩ : ∃ z, z = ups σ1 11 p 0 d := ⟨_, rfl⟩
        rw [← hσ2] at hW
        refine k_out 2 hX hS (by decide) hl_319 dX7_lease_63 ?_
        have hW : WP Dg ccnt ad (cE cA ad (fLease σ p d)) _ := (by rw [fLease, if_neg (by omega), if_neg (by omega)]; exact gh (fun _ _ => rfl) (sw hW (by rw [hσ2, hσ1])))
        exact k_aret2 hX (by rw [oLease, if_neg (by omega), if_neg (by omega)]) hW hS dX7_lease_66 ⟨_, rfl⟩
      · refine lv_aload hx hb dX7_lease_39 (lv_at hl 0 rfl) ?_
        refine lv_iload_n hx hb dX7_lease_41 rfl (lv_at hl 3 rfl) ?_
        refine cp_Device_owner hC hW hin_X0 hl_131 (by omega) hS dX7_lease_42 (fun H locs hW hS => ?_)
        obtain ⟨σ3, hσ3⟩ : ∃ z, z = ups σ 18 d 0 p := ⟨_, rfl⟩
        rw [← hσ3] at hW
        refine k_out 0 hX hS (by decide) hl_276 dX7_lease_45 ?_
        have hW : WP Dg ccnt ad (cE cA ad (fLease σ p d)) _ := (sw hW (by rw [hσ3, fLease, if_neg (by omega), if_pos (by omega)]))
        exact k_aret2 hX (by rw [oLease, if_neg (by omega), if_pos (by omega)]) hW hS dX7_lease_48 ⟨_, rfl⟩
    · refine k_out 0 hX hS (by decide) hl_276 dX7_lease_26 ?_
      have hW : WP Dg ccnt ad (cE cA ad (fLease σ p d)) _ := (sw hW (by rw [fLease, if_pos (by omega)]))
      exact k_aret2 hX (by rw [oLease, if_pos (by omega)]) hW hS dX7_lease_29 ⟨_, rfl⟩
set_option maxHeartbeats 4000000 in
set_option maxRecDepth 100000 in
theorem m_show {l : Launch} {Dg : va_G} {cA : Nat → ClassId} {ad : Nat → Int → Nat} {oc : Nat → Nat} (hI : WI ccnt ad) {N M : Int} (σ : St) (k n : Int) (hv : Inv N M σ) (hk : 0 ≤ k ∧ k < 6) (hnn : 0 ≤ n ∧ n < 100) (hN : N ≤ 1000000) : GR l yX7_show wsX7_show ({ frames := 1, cells := 0, slots := 0, locals := 22 } : Room) Dg cA ccnt ad oc (cE cA ad σ) [.ref (ad 0 0), .int (zi k), .int (zi n)] (oShow σ k n) (cE cA ad (fShow σ k n)) := by
  intro sz
  refine g_ent (cc := cX7_show) (maxL := 6) (ret := (some (.object "KioskReel$Outcome"))) (by decide) rfl hI (Nat.le_of_ble_eq_true rfl) ?_
  intro pgm env s₀ m₀ bel mth cod hX hW hS hsz ls hl
  subst hsz
  have hC := hX.1
  have hx := hC.1
  have hb := hC.2.1
  have hts := hC.2.2.2.1
  have hl : lv_has ls 6 [(0, .ref (ad 0 0)), (1, .int (zi k)), (2, .int (zi n))] := hl
  have hin_X1 : ∀ w ∈ wsX10, w ∈ wsX7_show := by decide +kernel
  have hin_X6 : ∀ w ∈ wsX60, w ∈ wsX7_show := by decide +kernel
  have hin_X7 : ∀ w ∈ wsX70, w ∈ wsX7_show := by decide +kernel
  have hl_17 := hts (.fieldLink RX7 17 "KioskReel" "kiosks" "[LKioskReel$Kiosk;") (by decide +kernel)
  have hl_35 := hts (.fieldLink RX7 35 "KioskReel" "visitors" "[LKioskReel$Visitor;") (by decide +kernel)
  have hl_198 := hts (.fieldLink RX7 198 "KioskReel$Kiosk" "lastSlide" "I") (by decide +kernel)
  have hl_208 := hts (.fieldLink RX7 208 "KioskReel" "visitorCount" "I") (by decide +kernel)
  have hl_216 := hts (.fieldLink RX7 216 "KioskReel$Visitor" "place" "I") (by decide +kernel)
  have hl_276 := hts (.fieldLink RX7 276 "KioskReel$Outcome" "GOES_ON" "LKioskReel$Outcome;") (by decide +kernel)
  have hl_286 := hts (.fieldLink RX7 286 "KioskReel$Outcome" "SHOWN" "LKioskReel$Outcome;") (by decide +kernel)
  have hA := hv.A
  unfold IvA at hA
  refine k_iconst hC dX7_show_0 ?_
  refine lv_istore_n (lv' := [(3, .int (zi 0)), (0, .ref (ad 0 0)), (1, .int (zi k)), (2, .int (zi n))]) hx hb dX7_show_1 rfl hl (by decide) rfl (fun ls hl => ?_)
  refine k_iconst hC dX7_show_2 ?_
  refine lv_istore (lv' := [(4, .int (zi 0)), (3, .int (zi 0)), (0, .ref (ad 0 0)), (1, .int (zi k)), (2, .int (zi n))]) hx hb dX7_show_3 hl (by decide) rfl (fun ls hl => ?_)
  have loop_5 : ∀ (fuel : Nat) (i : Int) (sv : Int), σ 28 0 0 - i < (fuel : Int) → (0 ≤ i) → (i ≤ σ 28 0 0) → (sv = if 0 < cN (wouldB σ k n) i then 1 else 0) → ∀ (H : Heap) (locs : List Loc), WP Dg ccnt ad (cE cA ad (seeP σ k n i)) H → va_S (WA ccnt ad s₀.heap.size) s₀.heap H locs → ∀ ls : Array Slot, lv_has ls 6 [(4, .int (zi i)), (3, .int (zi sv)), (0, .ref (ad 0 0)), (1, .int (zi k)), (2, .int (zi n))] → W pgm l env ({ frames := 1, cells := 0, slots := 0, locals := 22 } : Room) s₀ m₀ ([.ref (ad 0 0), .int (zi k), .int (zi n)] : List Value).toArray bel mth cod H locs 0 0 (MQ bel (va_Qr (fun _ : Unit => True) (fun (_ : Unit) (a : Nat) (t : State) => a = oc (oShow σ k n) ∧ WP Dg ccnt ad (cE cA ad (fShow σ k n)) t.heap) (WA ccnt ad s₀.heap.size)) ([.ref (ad 0 0), .int (zi k), .int (zi n)] : List Value).toArray s₀ 0 0 (WA ccnt ad s₀.heap.size)) (F0 m₀ 5 ls []) := by
    intro fuel
    induction fuel with
    | zero => intro i sv hn i1 i2 i3; exact absurd hn (by omega)
    | succ fuel ih_5 =>
      intro i sv hn i1 i2 i3 H locs hW hS ls hl
      obtain ⟨σ1, hσ1⟩ : ∃ z, z = seeP σ k n i := ⟨_, rfl⟩
      rw [← hσ1] at hW
      refine lv_iload hx hb dX7_show_5 (lv_at hl 0 rfl) ?_
      refine lv_aload_n hx hb dX7_show_7 rfl (lv_at hl 2 rfl) ?_
      refine cg_KR_visitorCount hC hW hin_X7 hl_208 (v := σ 28 0 0) (by rw [hσ1, seeP_22 _ _ _ _ (by decide) (by decide)]) dX7_show_8 ?_
      refine k_icmp_ge (tgt := 55) hC dX7_show_11 (by decide) (by omega) (fun c1 => ?_) (fun c1 => ?_)
      · have hi : i = σ 28 0 0 := by omega
        rw [hi] at i3
        refine lv_iload_n hx hb dX7_show_55 rfl (lv_at hl 1 rfl) ?_
        refine k_if_ne (tgt := 71) hC dX7_show_56 (by decide) (by omega) (fun c2 => ?_) (fun c2 => ?_)
        · refine lv_aload_n hx hb dX7_show_71 rfl (lv_at hl 2 rfl) ?_
          refine cg_KR_kiosks hC hW hin_X7 hl_17 dX7_show_72 ?_
          refine lv_iload_n hx hb dX7_show_75 rfl (lv_at hl 3 rfl) ?_
          refine ca_kiosks hC hW (by omega) dX7_show_76 ?_
          refine lv_iload_n hx hb dX7_show_77 rfl (lv_at hl 4 rfl) ?_
          refine cp_Kiosk_lastSlide hC hW hin_X1 hl_198 (by omega) hS dX7_show_78 (fun H locs hW hS => ?_)
          obtain ⟨σ2, hσ2⟩ : ∃ z, z = ups σ1 15 k 0 n := ⟨_, rfl⟩
          rw [← hσ2] at hW
          refine k_out 1 hX hS (by decide) hl_286 dX7_show_81 ?_
          have hW : WP Dg ccnt ad (cE cA ad (fShow σ k n)) _ := (by rw [fShow, if_neg (by omega)]; exact gh (fun _ _ => rfl) (sw hW (by first | rw [hσ2, hσ1, hi] | rw [hσ2, hσ1, seeP_none σ (by omega) (by omega)])))
          exact k_aret2 hX (by rw [oShow, if_neg (by omega)]) hW hS dX7_show_84 ⟨_, rfl⟩
        · have hW : WP Dg ccnt ad (cE cA ad σ) _ := (sw hW (by rw [hσ1, hi]; exact seeP_none σ (by omega) (by omega)))
          refine lv_aload_n hx hb dX7_show_59 rfl (lv_at hl 2 rfl) ?_
          refine lv_iload_n hx hb dX7_show_60 rfl (lv_at hl 3 rfl) ?_
          refine k_callI (As := [.int (zi k)]) (rest := []) hX hl.1 (m_hasVisitor hI σ k hv (by omega)) (cwV 1 hts gX7_show_X7_hasVisitor rfl rfl rfl (by decide +kernel) ⟨Nat.le_of_ble_eq_true rfl, Nat.le_of_ble_eq_true rfl⟩) (rc_KR hC hW) hW hS ⟨Nat.zero_le _, Nat.zero_le _⟩ rfl rfl (Nat.le_of_ble_eq_true rfl) dX7_show_61 (fun H locs hW hS _ _ => ?_)
          refine k_if_eq (tgt := 71) hC dX7_show_64 (by decide) (by omega) (fun c3 => ?_) (fun c3 => ?_)
          · refine lv_aload_n hx hb dX7_show_71 rfl (lv_at hl 2 rfl) ?_
            refine cg_KR_kiosks hC hW hin_X7 hl_17 dX7_show_72 ?_
            refine lv_iload_n hx hb dX7_show_75 rfl (lv_at hl 3 rfl) ?_
            refine ca_kiosks hC hW (by omega) dX7_show_76 ?_
            refine lv_iload_n hx hb dX7_show_77 rfl (lv_at hl 4 rfl) ?_
            refine cp_Kiosk_lastSlide hC hW hin_X1 hl_198 (by omega) hS dX7_show_78 (fun H locs hW hS => ?_)
            obtain ⟨σ3, hσ3⟩ : ∃ z, z = ups σ 15 k 0 n := ⟨_, rfl⟩
            rw [← hσ3] at hW
            refine k_out 1 hX hS (by decide) hl_286 dX7_show_81 ?_
            have hW : WP Dg ccnt ad (cE cA ad (fShow σ k n)) _ := (by rw [fShow, if_neg (by omega)]; exact gh (fun _ _ => rfl) (sw hW (by first | rw [hσ3, hi] | rw [hσ3, seeP_none σ (by omega) (by omega)])))
            exact k_aret2 hX (by rw [oShow, if_neg (by omega)]) hW hS dX7_show_84 ⟨_, rfl⟩
          · refine k_out 0 hX hS (by decide) hl_276 dX7_show_67 ?_
            have hW : WP Dg ccnt ad (cE cA ad (fShow σ k n)) _ := (sw hW (by rw [fShow, if_pos (by omega)]))
            exact k_aret2 hX (by rw [oShow, if_pos (by omega)]) hW hS dX7_show_70 ⟨_, rfl⟩
      · refine lv_aload_n hx hb dX7_show_14 rfl (lv_at hl 2 rfl) ?_
        refine cg_KR_visitors hC hW hin_X7 hl_35 dX7_show_15 ?_
        refine lv_iload hx hb dX7_show_18 (lv_at hl 0 rfl) ?_
        refine ca_visitors hC hW (by omega) dX7_show_20 ?_
        refine lv_astore (lv' := [(5, .ref (ad 14 i)), (4, .int (zi i)), (3, .int (zi sv)), (0, .ref (ad 0 0)), (1, .int (zi k)), (2, .int (zi n))]) hx hb dX7_show_21 hl (by decide) rfl (fun ls hl => ?_)
        refine lv_aload hx hb dX7_show_23 (lv_at hl 0 rfl) ?_
        have e19 : σ1 19 i n = σ 19 i n := by rw [hσ1]; exact seeP_rd _ _ _ _ _ _ (Int.le_refl _)
        have e21 : σ1 21 i n = σ 21 i n := by rw [hσ1]; exact seeP_rd _ _ _ _ _ _ (Int.le_refl _)
        have hV1 := (hv.V i (by omega) (by omega)).1
        have hV2 := (hv.V i (by omega) (by omega)).2 n (by omega) (by omega)
        refine cg_Visitor_place hC hW hin_X6 hl_216 (by omega) (v := σ 22 i 0) (by rw [hσ1, seeP_22 _ _ _ _ (by decide) (by decide)]) dX7_show_25 ?_
        refine lv_iload_n hx hb dX7_show_28 rfl (lv_at hl 4 rfl) ?_
        refine k_icmp_ne (tgt := 49) hC dX7_show_29 (by decide) (by omega) (fun c4 => ?_) (fun c4 => ?_)
        · refine k_iinc (a := i) (lv' := [(4, .int (zi (i + 1))), (5, .ref (ad 14 i)), (3, .int (zi sv)), (0, .ref (ad 0 0)), (1, .int (zi k)), (2, .int (zi n))]) hC dX7_show_49 hl (k := 1) rfl (by decide) rfl (fun ls hl => ?_)
          refine lv_goto (tgt := 5) hx hb dX7_show_52 (by decide) ?_
          have hl := Eq.mp (congrArg (fun z : Int => lv_has ls 6 [(4, .int (zi z)), (5, .ref (ad 14 i)), (3, .int (zi sv)), (0, .ref (ad 0 0)), (1, .int (zi k)), (2, .int (zi n))]) (show (i + 1 : Int) = (i + 1) by omega)) hl
          exact ih_5 (i + 1) sv (by omega) (by omega) (by omega) (by first | exact sv_go i1 ((wouldB_iff σ k n i).mpr (by omega)) | exact sv_no i1 (fun z => by have z1 := (wouldB_iff σ k n i).mp z; omega) i3) _ _ (sw hW (by rw [hσ1]; exact seeP_skip σ (fun z => by have z1 := (wouldB_iff σ k n i).mp z; omega))) hS _ (lv_sub hl [0, 2, 3, 4, 5] rfl)
        · refine lv_aload hx hb dX7_show_32 (lv_at hl 0 rfl) ?_
          refine lv_iload_n hx hb dX7_show_34 rfl (lv_at hl 5 rfl) ?_
          refine k_callI (As := [.int (zi n)]) (rest := []) hX hl.1 (m_wouldSee hI σ1 i n (by omega) hnn (by rw [e19]; omega) (by rw [e21]; omega)) (cwV 1 hts gX7_show_X6_wouldSee rfl rfl rfl (by decide +kernel) ⟨Nat.le_of_ble_eq_true rfl, Nat.le_of_ble_eq_true rfl⟩) (rc_Visitor hC hW (by omega)) hW hS ⟨Nat.zero_le _, Nat.zero_le _⟩ rfl rfl (Nat.le_of_ble_eq_true rfl) dX7_show_35 (fun H locs hW hS _ _ => ?_)
          refine k_if_eq (tgt := 49) hC dX7_show_38 (by decide) (by omega) (fun c5 => ?_) (fun c5 => ?_)
          · refine k_iinc (a := i) (lv' := [(4, .int (zi (i + 1))), (5, .ref (ad 14 i)), (3, .int (zi sv)), (0, .ref (ad 0 0)), (1, .int (zi k)), (2, .int (zi n))]) hC dX7_show_49 hl (k := 1) rfl (by decide) rfl (fun ls hl => ?_)
            refine lv_goto (tgt := 5) hx hb dX7_show_52 (by decide) ?_
            have hl := Eq.mp (congrArg (fun z : Int => lv_has ls 6 [(4, .int (zi z)), (5, .ref (ad 14 i)), (3, .int (zi sv)), (0, .ref (ad 0 0)), (1, .int (zi k)), (2, .int (zi n))]) (show (i + 1 : Int) = (i + 1) by omega)) hl
            exact ih_5 (i + 1) sv (by omega) (by omega) (by omega) (by first | exact sv_go i1 ((wouldB_iff σ k n i).mpr (by omega)) | exact sv_no i1 (fun z => by have z1 := (wouldB_iff σ k n i).mp z; omega) i3) _ _ (sw hW (by rw [hσ1]; exact seeP_skip σ (fun z => by have z1 := (wouldB_iff σ k n i).mp z; omega))) hS _ (lv_sub hl [0, 2, 3, 4, 5] rfl)
          · refine lv_aload hx hb dX7_show_41 (lv_at hl 0 rfl) ?_
            refine lv_iload_n hx hb dX7_show_43 rfl (lv_at hl 5 rfl) ?_
            refine k_callV (As := [.int (zi n)]) (rest := []) hX hl.1 (m_see hI σ1 i n (by omega) hnn) (cwV 1 hts gX7_show_X6_see rfl rfl rfl (by decide +kernel) ⟨Nat.le_of_ble_eq_true rfl, Nat.le_of_ble_eq_true rfl⟩) (rc_Visitor hC hW (by omega)) hW hS ⟨Nat.zero_le _, Nat.zero_le _⟩ rfl rfl (Nat.le_of_ble_eq_true rfl) dX7_show_44 (fun H locs hW hS _ _ => ?_)
            obtain ⟨σ4, hσ4⟩ : ∃ z, z = fSee σ1 i n := ⟨_, rfl⟩
            rw [← hσ4] at hW
            refine k_iconst hC dX7_show_47 ?_
            refine lv_istore_n (lv' := [(3, .int (zi 1)), (5, .ref (ad 14 i)), (4, .int (zi i)), (0, .ref (ad 0 0)), (1, .int (zi k)), (2, .int (zi n))]) hx hb dX7_show_48 rfl hl (by decide) rfl (fun ls hl => ?_)
            refine k_iinc (a := i) (lv' := [(4, .int (zi (i + 1))), (3, .int (zi 1)), (5, .ref (ad 14 i)), (0, .ref (ad 0 0)), (1, .int (zi k)), (2, .int (zi n))]) hC dX7_show_49 hl (k := 2) rfl (by decide) rfl (fun ls hl => ?_)
            refine lv_goto (tgt := 5) hx hb dX7_show_52 (by decide) ?_
            have hl := Eq.mp (congrArg (fun z : Int => lv_has ls 6 [(4, .int (zi z)), (3, .int (zi 1)), (5, .ref (ad 14 i)), (0, .ref (ad 0 0)), (1, .int (zi k)), (2, .int (zi n))]) (show (i + 1 : Int) = (i + 1) by omega)) hl
            exact ih_5 (i + 1) 1 (by omega) (by omega) (by omega) (by first | exact sv_go i1 ((wouldB_iff σ k n i).mpr (by omega)) | exact sv_no i1 (fun z => by have z1 := (wouldB_iff σ k n i).mp z; omega) i3) _ _ (sw hW (by rw [hσ4, hσ1]; exact seeP_go σ i1 ((wouldB_iff σ k n i).mpr (by omega)))) hS _ (lv_sub hl [0, 1, 3, 4, 5] rfl)
  exact loop_5 (Int.toNat (σ 28 0 0 - 0) + 1) 0 0 (by omega) (by omega) (by omega) rfl _ _ (sw hW (seeP_0 σ k n).symm) hS _ (lv_sub hl [0, 1, 2, 3, 4] rfl)
set_option maxHeartbeats 4000000 in
set_option maxRecDepth 100000 in
theorem m_branch {l : Launch} {Dg : va_G} {cA : Nat → ClassId} {ad : Nat → Int → Nat} {oc : Nat → Nat} (hI : WI ccnt ad) {N M : Int} (σ : St) (p k n : Int) (hv : Inv N M σ) (hp : 0 ≤ p ∧ p < 6) (hh : 1 ≤ σ 5 p 0 ∧ σ 5 p 0 ≤ 4) (hk : 0 ≤ k ∧ k < 65536) : GV l yX7_branch wsX7_branch ({ frames := 1, cells := 0, slots := 0, locals := 22 } : Room) Dg cA ccnt ad oc (cE cA ad σ) [.ref (ad 0 0), .ref (ad 10 p), .int (zi k), .int (zi n)] (cE cA ad (fBranch σ p k n)) := by
  intro sz
  refine g_ent (cc := cX7_branch) (maxL := 4) (ret := none) (by decide) rfl hI (Nat.le_of_ble_eq_true rfl) ?_
  intro pgm env s₀ m₀ bel mth cod hX hW hS hsz ls hl
  subst hsz
  have hC := hX.1
  have hx := hC.1
  have hb := hC.2.1
  have hts := hC.2.2.2.1
  have hl : lv_has ls 4 [(0, .ref (ad 0 0)), (1, .ref (ad 10 p)), (2, .int (zi k)), (3, .int (zi n))] := hl
  have hin_X3 : ∀ w ∈ wsX30, w ∈ wsX7_branch := by decide +kernel
  have hl_125 := hts (.fieldLink RX7 125 "KioskReel$Player" "place" "I") (by decide +kernel)
  have hl_181 := hts (.fieldLink RX7 181 "KioskReel$Player" "counter" "I") (by decide +kernel)
  have hs := hv.S p hp.1 hp.2
  have hc := hv.C p hp.1 hp.2
  refine lv_iload_n hx hb dX7_branch_0 rfl (lv_at hl 2 rfl) ?_
  refine k_bipush hC dX7_branch_1 (by decide) ?_
  refine k_icmp_ne (tgt := 26) hC dX7_branch_3 (by decide) (by omega) (fun c1 => ?_) (fun c1 => ?_)
  · refine lv_iload_n hx hb dX7_branch_26 rfl (lv_at hl 2 rfl) ?_
    refine k_bipush hC dX7_branch_27 (by decide) ?_
    refine k_icmp_ne (tgt := 43) hC dX7_branch_29 (by decide) (by omega) (fun c2 => ?_) (fun c2 => ?_)
    · refine lv_aload_n hx hb dX7_branch_43 rfl (lv_at hl 1 rfl) ?_
      refine lv_iload_n hx hb dX7_branch_44 rfl (lv_at hl 3 rfl) ?_
      refine k_callV (As := [.int (zi n)]) (rest := []) hX hl.1 (m_goOnAt hI σ p n hp hh) (cwV 1 hts gX7_branch_X3_goOnAt rfl rfl rfl (by decide +kernel) ⟨Nat.le_of_ble_eq_true rfl, Nat.le_of_ble_eq_true rfl⟩) (rc_Player hC hW (by omega)) hW hS ⟨Nat.zero_le _, Nat.zero_le _⟩ rfl rfl (Nat.le_of_ble_eq_true rfl) dX7_branch_45 (fun H locs hW hS _ _ => ?_)
      obtain ⟨σ1, hσ1⟩ : ∃ z, z = ups σ 4 p (σ 5 p 0 - 1) n := ⟨_, rfl⟩
      rw [← hσ1] at hW
      have hW : WP Dg ccnt ad (cE cA ad (fBranch σ p k n)) _ := (sw hW (by first | (exfalso; omega) | rw [hσ1, fBranch, if_pos (by omega)] | rw [hσ1, fBranch, if_neg (by omega), if_pos (by omega)] | rw [hσ1, fBranch, if_neg (by omega), if_neg (by omega)]))
      exact k_vret hX hW hS dX7_branch_48
    · refine lv_aload_n hx hb dX7_branch_32 rfl (lv_at hl 0 rfl) ?_
      refine lv_aload_n hx hb dX7_branch_33 rfl (lv_at hl 1 rfl) ?_
      refine cg_Player_place hC hW hin_X3 hl_125 (by omega) (v := σ 8 p 0) rfl dX7_branch_34 ?_
      refine k_callI (As := [.int (zi (σ 8 p 0))]) (rest := []) hX hl.1 (m_hasVisitor hI σ (σ 8 p 0) hv (by omega)) (cwV 1 hts gX7_branch_X7_hasVisitor rfl rfl rfl (by decide +kernel) ⟨Nat.le_of_ble_eq_true rfl, Nat.le_of_ble_eq_true rfl⟩) (rc_KR hC hW) hW hS ⟨Nat.zero_le _, Nat.zero_le _⟩ rfl rfl (Nat.le_of_ble_eq_true rfl) dX7_branch_37 (fun H locs hW hS _ _ => ?_)
      refine k_if_ne (tgt := 48) hC dX7_branch_40 (by decide) (by omega) (fun c3 => ?_) (fun c3 => ?_)
      · have hW : WP Dg ccnt ad (cE cA ad (fBranch σ p k n)) _ := (sw hW (by first | (exfalso; omega) | rw [fBranch, if_pos (by omega)] | rw [fBranch, if_neg (by omega), if_pos (by omega)] | rw [fBranch, if_neg (by omega), if_neg (by omega)]))
        exact k_vret hX hW hS dX7_branch_48
      · refine lv_aload_n hx hb dX7_branch_43 rfl (lv_at hl 1 rfl) ?_
        refine lv_iload_n hx hb dX7_branch_44 rfl (lv_at hl 3 rfl) ?_
        refine k_callV (As := [.int (zi n)]) (rest := []) hX hl.1 (m_goOnAt hI σ p n hp hh) (cwV 1 hts gX7_branch_X3_goOnAt rfl rfl rfl (by decide +kernel) ⟨Nat.le_of_ble_eq_true rfl, Nat.le_of_ble_eq_true rfl⟩) (rc_Player hC hW (by omega)) hW hS ⟨Nat.zero_le _, Nat.zero_le _⟩ rfl rfl (Nat.le_of_ble_eq_true rfl) dX7_branch_45 (fun H locs hW hS _ _ => ?_)
        obtain ⟨σ2, hσ2⟩ : ∃ z, z = ups σ 4 p (σ 5 p 0 - 1) n := ⟨_, rfl⟩
        rw [← hσ2] at hW
        have hW : WP Dg ccnt ad (cE cA ad (fBranch σ p k n)) _ := (sw hW (by first | (exfalso; omega) | rw [hσ2, fBranch, if_pos (by omega)] | rw [hσ2, fBranch, if_neg (by omega), if_pos (by omega)] | rw [hσ2, fBranch, if_neg (by omega), if_neg (by omega)]))
        exact k_vret hX hW hS dX7_branch_48
  · refine lv_aload_n hx hb dX7_branch_6 rfl (lv_at hl 1 rfl) ?_
    refine cg_Player_counter hC hW hin_X3 hl_181 (by omega) (v := σ 9 p 0) rfl dX7_branch_7 ?_
    refine k_if_le (tgt := 26) hC dX7_branch_10 (by decide) (by omega) (fun c4 => ?_) (fun c4 => ?_)
    · refine lv_iload_n hx hb dX7_branch_26 rfl (lv_at hl 2 rfl) ?_
      refine k_bipush hC dX7_branch_27 (by decide) ?_
      refine k_icmp_ne (tgt := 43) hC dX7_branch_29 (by decide) (by omega) (fun c5 => ?_) (fun c5 => ?_)
      · refine lv_aload_n hx hb dX7_branch_43 rfl (lv_at hl 1 rfl) ?_
        refine lv_iload_n hx hb dX7_branch_44 rfl (lv_at hl 3 rfl) ?_
        refine k_callV (As := [.int (zi n)]) (rest := []) hX hl.1 (m_goOnAt hI σ p n hp hh) (cwV 1 hts gX7_branch_X3_goOnAt rfl rfl rfl (by decide +kernel) ⟨Nat.le_of_ble_eq_true rfl, Nat.le_of_ble_eq_true rfl⟩) (rc_Player hC hW (by omega)) hW hS ⟨Nat.zero_le _, Nat.zero_le _⟩ rfl rfl (Nat.le_of_ble_eq_true rfl) dX7_branch_45 (fun H locs hW hS _ _ => ?_)
        obtain ⟨σ3, hσ3⟩ : ∃ z, z = ups σ 4 p (σ 5 p 0 - 1) n := ⟨_, rfl⟩
        rw [← hσ3] at hW
        have hW : WP Dg ccnt ad (cE cA ad (fBranch σ p k n)) _ := (sw hW (by first | (exfalso; omega) | rw [hσ3, fBranch, if_pos (by omega)] | rw [hσ3, fBranch, if_neg (by omega), if_pos (by omega)] | rw [hσ3, fBranch, if_neg (by omega), if_neg (by omega)]))
        exact k_vret hX hW hS dX7_branch_48
      · refine lv_aload_n hx hb dX7_branch_32 rfl (lv_at hl 0 rfl) ?_
        refine lv_aload_n hx hb dX7_branch_33 rfl (lv_at hl 1 rfl) ?_
        refine cg_Player_place hC hW hin_X3 hl_125 (by omega) (v := σ 8 p 0) rfl dX7_branch_34 ?_
        refine k_callI (As := [.int (zi (σ 8 p 0))]) (rest := []) hX hl.1 (m_hasVisitor hI σ (σ 8 p 0) hv (by omega)) (cwV 1 hts gX7_branch_X7_hasVisitor rfl rfl rfl (by decide +kernel) ⟨Nat.le_of_ble_eq_true rfl, Nat.le_of_ble_eq_true rfl⟩) (rc_KR hC hW) hW hS ⟨Nat.zero_le _, Nat.zero_le _⟩ rfl rfl (Nat.le_of_ble_eq_true rfl) dX7_branch_37 (fun H locs hW hS _ _ => ?_)
        refine k_if_ne (tgt := 48) hC dX7_branch_40 (by decide) (by omega) (fun c6 => ?_) (fun c6 => ?_)
        · have hW : WP Dg ccnt ad (cE cA ad (fBranch σ p k n)) _ := (sw hW (by first | (exfalso; omega) | rw [fBranch, if_pos (by omega)] | rw [fBranch, if_neg (by omega), if_pos (by omega)] | rw [fBranch, if_neg (by omega), if_neg (by omega)]))
          exact k_vret hX hW hS dX7_branch_48
        · refine lv_aload_n hx hb dX7_branch_43 rfl (lv_at hl 1 rfl) ?_
          refine lv_iload_n hx hb dX7_branch_44 rfl (lv_at hl 3 rfl) ?_
          refine k_callV (As := [.int (zi n)]) (rest := []) hX hl.1 (m_goOnAt hI σ p n hp hh) (cwV 1 hts gX7_branch_X3_goOnAt rfl rfl rfl (by decide +kernel) ⟨Nat.le_of_ble_eq_true rfl, Nat.le_of_ble_eq_true rfl⟩) (rc_Player hC hW (by omega)) hW hS ⟨Nat.zero_le _, Nat.zero_le _⟩ rfl rfl (Nat.le_of_ble_eq_true rfl) dX7_branch_45 (fun H locs hW hS _ _ => ?_)
          obtain ⟨σ4, hσ4⟩ : ∃ z, z = ups σ 4 p (σ 5 p 0 - 1) n := ⟨_, rfl⟩
          rw [← hσ4] at hW
          have hW : WP Dg ccnt ad (cE cA ad (fBranch σ p k n)) _ := (sw hW (by first | (exfalso; omega) | rw [hσ4, fBranch, if_pos (by omega)] | rw [hσ4, fBranch, if_neg (by omega), if_pos (by omega)] | rw [hσ4, fBranch, if_neg (by omega), if_neg (by omega)]))
          exact k_vret hX hW hS dX7_branch_48
    · refine lv_aload_n hx hb dX7_branch_13 rfl (lv_at hl 1 rfl) ?_
      refine lv_dup hx hb dX7_branch_14 rfl ?_
      refine cg_Player_counter hC hW hin_X3 hl_181 (by omega) (v := σ 9 p 0) rfl dX7_branch_15 ?_
      refine k_iconst hC dX7_branch_18 ?_
      refine k_isub hC dX7_branch_19 ?_
      refine cp_Player_counter hC hW hin_X3 hl_181 (by omega) hS dX7_branch_20 (fun H locs hW hS => ?_)
      obtain ⟨σ5, hσ5⟩ : ∃ z, z = ups σ 9 p 0 ((σ 9 p 0) - 1) := ⟨_, rfl⟩
      rw [← hσ5] at hW
      refine lv_goto (tgt := 48) hx hb dX7_branch_23 (by decide) ?_
      have hW : WP Dg ccnt ad (cE cA ad (fBranch σ p k n)) _ := (sw hW (by first | (exfalso; omega) | rw [hσ5, fBranch, if_pos (by omega)] | rw [hσ5, fBranch, if_neg (by omega), if_pos (by omega)] | rw [hσ5, fBranch, if_neg (by omega), if_neg (by omega)]))
      exact k_vret hX hW hS dX7_branch_48
set_option maxHeartbeats 4000000 in
set_option maxRecDepth 100000 in
theorem m_obey {l : Launch} {Dg : va_G} {cA : Nat → ClassId} {ad : Nat → Int → Nat} {oc : Nat → Nat} (hI : WI ccnt ad) {N M : Int} (σ : St) (p k n : Int) (hv : Inv N M σ) (hp : 0 ≤ p ∧ p < 6) (hs : σ 6 p 0 = 1) (ha : σ 11 p 0 = -1) (h8 : 0 ≤ σ 8 p 0) (hk : okL k n) (hN : N ≤ 1000000) : GR l yX7_obey wsX7_obey ({ frames := 2, cells := 0, slots := 0, locals := 47 } : Room) Dg cA ccnt ad oc (cE cA ad σ) [.ref (ad 0 0), .ref (ad 10 p), .int (zi p), .int (zi k), .int (zi n)] (oObey σ p k n) (cE cA ad (fObey σ p k n)) := by
  intro sz
  refine g_ent (cc := cX7_obey) (maxL := 5) (ret := (some (.object "KioskReel$Outcome"))) (by decide) rfl hI (Nat.le_of_ble_eq_true rfl) ?_
  intro pgm env s₀ m₀ bel mth cod hX hW hS hsz ls hl
  subst hsz
  have hC := hX.1
  have hx := hC.1
  have hb := hC.2.1
  have hts := hC.2.2.2.1
  have hl : lv_has ls 5 [(0, .ref (ad 0 0)), (1, .ref (ad 10 p)), (2, .int (zi p)), (3, .int (zi k)), (4, .int (zi n))] := hl
  have hin_X0 : ∀ w ∈ wsX00, w ∈ wsX7_obey := by decide +kernel
  have hin_X3 : ∀ w ∈ wsX30, w ∈ wsX7_obey := by decide +kernel
  have hin_X7 : ∀ w ∈ wsX70, w ∈ wsX7_obey := by decide +kernel
  have hl_11 := hts (.fieldLink RX7 11 "KioskReel" "reels" "[LKioskReel$Reel;") (by decide +kernel)
  have hl_29 := hts (.fieldLink RX7 29 "KioskReel" "devices" "[LKioskReel$Device;") (by decide +kernel)
  have hl_44 := hts (.fieldLink RX7 44 "KioskReel" "reelCount" "I") (by decide +kernel)
  have hl_125 := hts (.fieldLink RX7 125 "KioskReel$Player" "place" "I") (by decide +kernel)
  have hl_131 := hts (.fieldLink RX7 131 "KioskReel$Device" "owner" "I") (by decide +kernel)
  have hl_181 := hts (.fieldLink RX7 181 "KioskReel$Player" "counter" "I") (by decide +kernel)
  have hl_187 := hts (.fieldLink RX7 187 "KioskReel$Player" "ticksToWait" "I") (by decide +kernel)
  have hl_276 := hts (.fieldLink RX7 276 "KioskReel$Outcome" "GOES_ON" "LKioskReel$Outcome;") (by decide +kernel)
  have hl_319 := hts (.fieldLink RX7 319 "KioskReel$Outcome" "ENDS_TURN" "LKioskReel$Outcome;") (by decide +kernel)
  have hA := hv.A
  unfold IvA at hA
  obtain ⟨hD1, hD2⟩ := hv.D p hp.1 hp.2
  have hS8 := hv.S p hp.1 hp.2
  have hk1 := hk
  unfold okL at hk1
  refine lv_iload_n hx hb dX7_obey_0 rfl (lv_at hl 3 rfl) ?_
  rcases Classical.em (k = 99) with hsw | hsw
  · refine k_lookup (tgt := 140) hC dX7_obey_1 (by omega) (by decide) (by rw [hsw] <;> rfl) (by decide) ?_
    refine lv_aload_n hx hb dX7_obey_140 rfl (lv_at hl 1 rfl) ?_
    refine lv_iload hx hb dX7_obey_141 (lv_at hl 4 rfl) ?_
    refine cp_Player_counter hC hW hin_X3 hl_181 (by omega) hS dX7_obey_143 (fun H locs hW hS => ?_)
    obtain ⟨σ1, hσ1⟩ : ∃ z, z = ups σ 9 p 0 n := ⟨_, rfl⟩
    rw [← hσ1] at hW
    refine k_out 0 hX hS (by decide) hl_276 dX7_obey_146 ?_
    have hW : WP Dg ccnt ad (cE cA ad (fObey σ p k n)) _ := (sw hW (by rw [hσ1, fObey, if_neg (by omega), if_neg (by omega), if_neg (by omega), if_neg (by omega), if_neg (by omega), if_pos (by omega)]))
    exact k_aret2 hX (by rw [oObey, if_neg (by omega), if_neg (by omega), if_neg (by omega)]) hW hS dX7_obey_149 ⟨_, rfl⟩
  · skip
    rcases Classical.em (k = 100) with hsw | hsw
    · refine k_lookup (tgt := 83) hC dX7_obey_1 (by omega) (by decide) (by rw [hsw] <;> rfl) (by decide) ?_
      refine lv_aload_n hx hb dX7_obey_83 rfl (lv_at hl 0 rfl) ?_
      refine lv_aload_n hx hb dX7_obey_84 rfl (lv_at hl 1 rfl) ?_
      refine lv_iload_n hx hb dX7_obey_85 rfl (lv_at hl 2 rfl) ?_
      refine lv_iload hx hb dX7_obey_86 (lv_at hl 4 rfl) ?_
      refine k_callR (As := [.ref (ad 10 p), .int (zi p), .int (zi n)]) (rest := []) hX hl.1 (m_lease hI σ p n hv hp (by omega) ha) (cwV 3 hts gX7_obey_X7_lease rfl rfl rfl (by decide +kernel) ⟨Nat.le_of_ble_eq_true rfl, Nat.le_of_ble_eq_true rfl⟩) (rc_KR hC hW) hW hS ⟨Nat.zero_le _, Nat.zero_le _⟩ rfl rfl (Nat.le_of_ble_eq_true rfl) dX7_obey_88 (fun H locs hW hS _ _ => ?_)
      obtain ⟨σ2, hσ2⟩ : ∃ z, z = fLease σ p n := ⟨_, rfl⟩
      rw [← hσ2] at hW
      have hW : WP Dg ccnt ad (cE cA ad (fObey σ p k n)) _ := (sw hW (by rw [hσ2, fObey, if_neg (by omega), if_neg (by omega), if_pos (by omega)]))
      exact k_aret2 hX (by rw [oObey, if_neg (by omega), if_neg (by omega), if_pos (by omega)]) hW hS dX7_obey_91 ⟨_, rfl⟩
    · skip
      rcases Classical.em (k = 102) with hsw | hsw
      · refine k_lookup (tgt := 92) hC dX7_obey_1 (by omega) (by decide) (by rw [hsw] <;> rfl) (by decide) ?_
        refine lv_aload_n hx hb dX7_obey_92 rfl (lv_at hl 0 rfl) ?_
        refine cg_KR_devices hC hW hin_X7 hl_29 dX7_obey_93 ?_
        refine lv_iload hx hb dX7_obey_96 (lv_at hl 4 rfl) ?_
        refine ca_devices hC hW (by omega) dX7_obey_98 ?_
        have hO := (hv.O.1 n (by omega) (by omega)).1
        refine cg_Device_owner hC hW hin_X0 hl_131 (by omega) (v := σ 18 n 0) rfl dX7_obey_99 ?_
        refine lv_iload_n hx hb dX7_obey_102 rfl (lv_at hl 2 rfl) ?_
        refine k_icmp_ne (tgt := 112) hC dX7_obey_103 (by decide) (by omega) (fun c1 => ?_) (fun c1 => ?_)
        · refine k_out 0 hX hS (by decide) hl_276 dX7_obey_112 ?_
          have hW : WP Dg ccnt ad (cE cA ad (fObey σ p k n)) _ := (sw hW (by rw [fObey, if_neg (by omega), if_neg (by omega), if_neg (by omega), if_pos (by omega)]; first | rw [if_pos (by omega)] | rw [if_neg (by omega)]))
          exact k_aret2 hX (by rw [oObey, if_neg (by omega), if_neg (by omega), if_neg (by omega)]) hW hS dX7_obey_115 ⟨_, rfl⟩
        · refine lv_aload_n hx hb dX7_obey_106 rfl (lv_at hl 0 rfl) ?_
          refine lv_iload hx hb dX7_obey_107 (lv_at hl 4 rfl) ?_
          refine k_callV (As := [.int (zi n)]) (rest := []) hX hl.1 (m_passOn hI σ n (by omega) hv.W) (cwV 1 hts gX7_obey_X7_passOn rfl rfl rfl (by decide +kernel) ⟨Nat.le_of_ble_eq_true rfl, Nat.le_of_ble_eq_true rfl⟩) (rc_KR hC hW) hW hS ⟨Nat.zero_le _, Nat.zero_le _⟩ rfl rfl (Nat.le_of_ble_eq_true rfl) dX7_obey_109 (fun H locs hW hS _ _ => ?_)
          obtain ⟨σ3, hσ3⟩ : ∃ z, z = fPass σ n := ⟨_, rfl⟩
          rw [← hσ3] at hW
          refine k_out 0 hX hS (by decide) hl_276 dX7_obey_112 ?_
          have hW : WP Dg ccnt ad (cE cA ad (fObey σ p k n)) _ := (sw hW (by rw [hσ3, fObey, if_neg (by omega), if_neg (by omega), if_neg (by omega), if_pos (by omega)]; first | rw [if_pos (by omega)] | rw [if_neg (by omega)]))
          exact k_aret2 hX (by rw [oObey, if_neg (by omega), if_neg (by omega), if_neg (by omega)]) hW hS dX7_obey_115 ⟨_, rfl⟩
      · skip
        rcases Classical.em (k = 112) with hsw | hsw
        · refine k_lookup (tgt := 116) hC dX7_obey_1 (by omega) (by decide) (by rw [hsw] <;> rfl) (by decide) ?_
          refine lv_iload hx hb dX7_obey_116 (lv_at hl 4 rfl) ?_
          refine lv_aload_n hx hb dX7_obey_118 rfl (lv_at hl 0 rfl) ?_
          refine cg_KR_reelCount hC hW hin_X7 hl_44 (v := σ 26 0 0) rfl dX7_obey_119 ?_
          refine k_icmp_ge (tgt := 136) hC dX7_obey_122 (by decide) (by omega) (fun c2 => ?_) (fun c2 => ?_)
          · refine k_out 0 hX hS (by decide) hl_276 dX7_obey_136 ?_
            have hW : WP Dg ccnt ad (cE cA ad (fObey σ p k n)) _ := (sw hW (by rw [fObey, if_neg (by omega), if_neg (by omega), if_neg (by omega), if_neg (by omega), if_pos (by omega)]; first | rw [if_pos (by omega)] | rw [if_neg (by omega)]))
            exact k_aret2 hX (by rw [oObey, if_neg (by omega), if_neg (by omega), if_neg (by omega)]) hW hS dX7_obey_139 ⟨_, rfl⟩
          · refine lv_aload_n hx hb dX7_obey_125 rfl (lv_at hl 1 rfl) ?_
            refine lv_aload_n hx hb dX7_obey_126 rfl (lv_at hl 0 rfl) ?_
            refine cg_KR_reels hC hW hin_X7 hl_11 dX7_obey_127 ?_
            refine lv_iload hx hb dX7_obey_130 (lv_at hl 4 rfl) ?_
            refine ca_reels hC hW (by omega) dX7_obey_132 ?_
            refine k_callV (As := [.ref (ad 6 n)]) (rest := []) hX hl.1 (m_putOnPile hI σ p n hp hD1 (by omega) (hv.R n (by omega) (by omega)).1 (fun j a b => ((hv.R n (by omega) (by omega)).2 j a b).1) (fun z => by omega)) (cwV 1 hts gX7_obey_X3_putOnPile rfl rfl rfl (by decide +kernel) ⟨Nat.le_of_ble_eq_true rfl, Nat.le_of_ble_eq_true rfl⟩) (rc_Player hC hW (by omega)) hW hS ⟨Nat.zero_le _, Nat.zero_le _⟩ rfl rfl (Nat.le_of_ble_eq_true rfl) dX7_obey_133 (fun H locs hW hS _ _ => ?_)
            obtain ⟨σ4, hσ4⟩ : ∃ z, z = fPutG σ p n := ⟨_, rfl⟩
            rw [← hσ4] at hW
            refine k_out 0 hX hS (by decide) hl_276 dX7_obey_136 ?_
            have hW : WP Dg ccnt ad (cE cA ad (fObey σ p k n)) _ := (sw hW (by rw [hσ4, fObey, if_neg (by omega), if_neg (by omega), if_neg (by omega), if_neg (by omega), if_pos (by omega)]; first | rw [if_pos (by omega)] | rw [if_neg (by omega)]))
            exact k_aret2 hX (by rw [oObey, if_neg (by omega), if_neg (by omega), if_neg (by omega)]) hW hS dX7_obey_139 ⟨_, rfl⟩
        · skip
          rcases Classical.em (k = 115) with hsw | hsw
          · refine k_lookup (tgt := 60) hC dX7_obey_1 (by omega) (by decide) (by rw [hsw] <;> rfl) (by decide) ?_
            refine lv_aload_n hx hb dX7_obey_60 rfl (lv_at hl 0 rfl) ?_
            refine lv_aload_n hx hb dX7_obey_61 rfl (lv_at hl 1 rfl) ?_
            refine cg_Player_place hC hW hin_X3 hl_125 (by omega) (v := σ 8 p 0) rfl dX7_obey_62 ?_
            refine lv_iload hx hb dX7_obey_65 (lv_at hl 4 rfl) ?_
            refine k_callR (As := [.int (zi (σ 8 p 0)), .int (zi n)]) (rest := []) hX hl.1 (m_show hI σ (σ 8 p 0) n hv (by omega) (by omega) hN) (cwV 2 hts gX7_obey_X7_show rfl rfl rfl (by decide +kernel) ⟨Nat.le_of_ble_eq_true rfl, Nat.le_of_ble_eq_true rfl⟩) (rc_KR hC hW) hW hS ⟨Nat.zero_le _, Nat.zero_le _⟩ rfl rfl (Nat.le_of_ble_eq_true rfl) dX7_obey_67 (fun H locs hW hS _ _ => ?_)
            obtain ⟨σ5, hσ5⟩ : ∃ z, z = fShow σ (σ 8 p 0) n := ⟨_, rfl⟩
            rw [← hσ5] at hW
            have hW : WP Dg ccnt ad (cE cA ad (fObey σ p k n)) _ := (sw hW (by rw [hσ5, fObey, if_pos (by omega)]))
            exact k_aret2 hX (by rw [oObey, if_pos (by omega)]) hW hS dX7_obey_70 ⟨_, rfl⟩
          · skip
            rcases Classical.em (k = 119) with hsw | hsw
            · refine k_lookup (tgt := 71) hC dX7_obey_1 (by omega) (by decide) (by rw [hsw] <;> rfl) (by decide) ?_
              refine lv_aload_n hx hb dX7_obey_71 rfl (lv_at hl 1 rfl) ?_
              refine lv_iload hx hb dX7_obey_72 (lv_at hl 4 rfl) ?_
              refine k_iconst hC dX7_obey_74 ?_
              refine k_isub hC dX7_obey_75 ?_
              refine cp_Player_ticksToWait hC hW hin_X3 hl_187 (by omega) hS dX7_obey_76 (fun H locs hW hS => ?_)
              obtain ⟨σ6, hσ6⟩ : ∃ z, z = ups σ 10 p 0 (n - 1) := ⟨_, rfl⟩
              rw [← hσ6] at hW
              refine k_out 2 hX hS (by decide) hl_319 dX7_obey_79 ?_
              have hW : WP Dg ccnt ad (cE cA ad (fObey σ p k n)) _ := (sw hW (by rw [hσ6, fObey, if_neg (by omega), if_pos (by omega)]))
              exact k_aret2 hX (by rw [oObey, if_neg (by omega), if_pos (by omega)]) hW hS dX7_obey_82 ⟨_, rfl⟩
            · skip
              refine k_lookup (tgt := 150) hC dX7_obey_1 (by omega) (by decide) (by rw [Op.lookupswitch.offset_cons, if_neg (by omega), Op.lookupswitch.offset_cons, if_neg (by omega), Op.lookupswitch.offset_cons, if_neg (by omega), Op.lookupswitch.offset_cons, if_neg (by omega), Op.lookupswitch.offset_cons, if_neg (by omega), Op.lookupswitch.offset_cons, if_neg (by omega), Op.lookupswitch.offset_nil]) (by decide) ?_
              refine lv_aload_n hx hb dX7_obey_150 rfl (lv_at hl 0 rfl) ?_
              refine lv_aload_n hx hb dX7_obey_151 rfl (lv_at hl 1 rfl) ?_
              refine lv_iload_n hx hb dX7_obey_152 rfl (lv_at hl 3 rfl) ?_
              refine lv_iload hx hb dX7_obey_153 (lv_at hl 4 rfl) ?_
              refine k_callV (As := [.ref (ad 10 p), .int (zi k), .int (zi n)]) (rest := []) hX hl.1 (m_branch hI σ p k n hv hp (by omega) (by omega)) (cwV 3 hts gX7_obey_X7_branch rfl rfl rfl (by decide +kernel) ⟨Nat.le_of_ble_eq_true rfl, Nat.le_of_ble_eq_true rfl⟩) (rc_KR hC hW) hW hS ⟨Nat.zero_le _, Nat.zero_le _⟩ rfl rfl (Nat.le_of_ble_eq_true rfl) dX7_obey_155 (fun H locs hW hS _ _ => ?_)
              obtain ⟨σ7, hσ7⟩ : ∃ z, z = fBranch σ p k n := ⟨_, rfl⟩
              rw [← hσ7] at hW
              refine k_out 0 hX hS (by decide) hl_276 dX7_obey_158 ?_
              have hW : WP Dg ccnt ad (cE cA ad (fObey σ p k n)) _ := (sw hW (by rw [hσ7, fObey, if_neg (by omega), if_neg (by omega), if_neg (by omega), if_neg (by omega), if_neg (by omega), if_neg (by omega)]))
              exact k_aret2 hX (by rw [oObey, if_neg (by omega), if_neg (by omega), if_neg (by omega)]) hW hS dX7_obey_161 ⟨_, rfl⟩
set_option maxHeartbeats 4000000 in
set_option maxRecDepth 100000 in
theorem m_doLine {l : Launch} {Dg : va_G} {cA : Nat → ClassId} {ad : Nat → Int → Nat} {oc : Nat → Nat} (hI : WI ccnt ad) {N M : Int} (σ : St) (p : Int) (hv : Inv N M σ) (hp : 0 ≤ p ∧ p < 6) (hs : σ 6 p 0 = 1) (ha : σ 11 p 0 = -1) (h8 : 0 ≤ σ 8 p 0) (hN : N ≤ 1000000) : GR l yX7_doLine wsX7_doLine ({ frames := 3, cells := 0, slots := 0, locals := 71 } : Room) Dg cA ccnt ad oc (cE cA ad σ) [.ref (ad 0 0), .ref (ad 10 p), .int (zi p)] (oLine σ p) (cE cA ad (fLine σ p)) := by
  intro sz
  refine g_ent (cc := cX7_doLine) (maxL := 5) (ret := (some (.object "KioskReel$Outcome"))) (by decide) rfl hI (Nat.le_of_ble_eq_true rfl) ?_
  intro pgm env s₀ m₀ bel mth cod hX hW hS hsz ls hl
  subst hsz
  have hC := hX.1
  have hx := hC.1
  have hb := hC.2.1
  have hts := hC.2.2.2.1
  have hl : lv_has ls 5 [(0, .ref (ad 0 0)), (1, .ref (ad 10 p)), (2, .int (zi p))] := hl
  have hin_X3 : ∀ w ∈ wsX30, w ∈ wsX7_doLine := by decide +kernel
  have hin_X5 : ∀ w ∈ wsX50, w ∈ wsX7_doLine := by decide +kernel
  have hin_X7 : ∀ w ∈ wsX70, w ∈ wsX7_doLine := by decide +kernel
  have hl_11 := hts (.fieldLink RX7 11 "KioskReel" "reels" "[LKioskReel$Reel;") (by decide +kernel)
  have hl_89 := hts (.fieldLink RX7 89 "KioskReel$Reel" "kinds" "[C") (by decide +kernel)
  have hl_174 := hts (.fieldLink RX7 174 "KioskReel$Player" "height" "I") (by decide +kernel)
  have hl_230 := hts (.fieldLink RX7 230 "KioskReel" "linesDone" "J") (by decide +kernel)
  have hl_276 := hts (.fieldLink RX7 276 "KioskReel$Outcome" "GOES_ON" "LKioskReel$Outcome;") (by decide +kernel)
  have hl_295 := hts (.fieldLink RX7 295 "KioskReel$Player" "firstList" "I") (by decide +kernel)
  have hl_302 := hts (.fieldLink RX7 302 "KioskReel$Player" "pile" "[LKioskReel$Reel;") (by decide +kernel)
  have hl_308 := hts (.fieldLink RX7 308 "KioskReel$Reel" "numbers" "[I") (by decide +kernel)
  have hA := hv.A
  unfold IvA at hA
  obtain ⟨hD1, hD2⟩ := hv.D p hp.1 hp.2
  have hD3 := hD2 hs
  refine lv_aload_n hx hb dX7_doLine_0 rfl (lv_at hl 1 rfl) ?_
  refine k_callV (As := []) (rest := []) hX hl.1 (m_takeEnded hI σ p hp (by omega) (fun r a b => (hv.R r a b).1) (fun j a b => hv.H p j hp.1 hp.2 a b)) (cwV 0 hts gX7_doLine_X3_takeEndedFromPile rfl rfl rfl (by decide +kernel) ⟨Nat.le_of_ble_eq_true rfl, Nat.le_of_ble_eq_true rfl⟩) (rc_Player hC hW (by omega)) hW hS ⟨Nat.zero_le _, Nat.zero_le _⟩ rfl rfl (Nat.le_of_ble_eq_true rfl) dX7_doLine_1 (fun H locs hW hS _ _ => ?_)
  obtain ⟨σ1, hσ1⟩ : ∃ z, z = fPop σ p := ⟨_, rfl⟩
  rw [← hσ1] at hW
  refine lv_aload_n hx hb dX7_doLine_4 rfl (lv_at hl 0 rfl) ?_
  refine lv_dup hx hb dX7_doLine_5 rfl ?_
  refine cg_KR_linesDone hC hW hin_X7 hl_230 (v := σ 29 0 0) (by rw [hσ1, at1 (fPop_T _ _) (t := 29) (by decide)]) dX7_doLine_6 ?_
  refine k_lconst (v := 1) hC dX7_doLine_9 (by decide) ?_
  refine k_ladd hC dX7_doLine_10 ?_
  refine cp_KR_linesDone hC hW hin_X7 hl_230 hS dX7_doLine_11 (fun H locs hW hS => ?_)
  obtain ⟨σ2, hσ2⟩ : ∃ z, z = ups σ1 29 0 0 ((σ 29 0 0) + 1) := ⟨_, rfl⟩
  rw [← hσ2] at hW
  obtain ⟨σ3, hσ3⟩ : ∃ z, z = fHead σ p := ⟨_, rfl⟩
  have hW : WP Dg ccnt ad (cE cA ad σ3) _ := (sw hW (by rw [hσ2, hσ3, fHead, hσ1, fPop_T σ p 29 (by decide)]))
  refine lv_aload_n hx hb dX7_doLine_14 rfl (lv_at hl 1 rfl) ?_
  have hJI : Inv N M σ3 := by rw [hσ3]; exact Inv_fHead hv
  have f6 : σ3 6 p 0 = 1 := by rw [hσ3, at1 (fHead_T σ p) (t := 6) (by decide)]; exact hs
  have f11 : σ3 11 p 0 = -1 := by rw [hσ3, at1 (fHead_T σ p) (t := 11) (by decide)]; exact ha
  have f8 : 0 ≤ σ3 8 p 0 := by rw [hσ3, at1 (fHead_T σ p) (t := 8) (by decide)]; exact h8
  have hend : σ3 = fHead σ p := hσ3
  obtain ⟨g1, g2⟩ := hJI.D p hp.1 hp.2
  have g3 := g2 f6
  obtain ⟨r1, r2⟩ := hJI.R (8 + 4 * p + (σ3 5 p 0 - 1)) (by omega) (by omega)
  have g4 := hJI.H p (σ3 5 p 0 - 1) (by omega) (by omega) (by omega) (by omega)
  have g5 := hJI.L p hp.1 hp.2
  refine k_callI (As := []) (rest := []) hX hl.1 (m_isAtEnd hI σ3 p hp (by omega) r1 g4) (cwV 0 hts gX7_doLine_X3_isAtEnd rfl rfl rfl (by decide +kernel) ⟨Nat.le_of_ble_eq_true rfl, Nat.le_of_ble_eq_true rfl⟩) (rc_Player hC hW (by omega)) hW hS ⟨Nat.zero_le _, Nat.zero_le _⟩ rfl rfl (Nat.le_of_ble_eq_true rfl) dX7_doLine_15 (fun H locs hW hS _ _ => ?_)
  refine k_if_eq (tgt := 38) hC dX7_doLine_18 (by decide) (by omega) (fun c1 => ?_) (fun c1 => ?_)
  · refine lv_aload_n hx hb dX7_doLine_38 rfl (lv_at hl 1 rfl) ?_
    refine k_callI (As := []) (rest := []) hX hl.1 (m_lineAhead hI σ3 p hp (by omega)) (cwV 0 hts gX7_doLine_X3_lineAhead rfl rfl rfl (by decide +kernel) ⟨Nat.le_of_ble_eq_true rfl, Nat.le_of_ble_eq_true rfl⟩) (rc_Player hC hW (by omega)) hW hS ⟨Nat.zero_le _, Nat.zero_le _⟩ rfl rfl (Nat.le_of_ble_eq_true rfl) dX7_doLine_39 (fun H locs hW hS _ _ => ?_)
    refine lv_istore_n (lv' := [(3, .int (zi (σ3 4 p (σ3 5 p 0 - 1)))), (0, .ref (ad 0 0)), (1, .ref (ad 10 p)), (2, .int (zi p))]) hx hb dX7_doLine_42 rfl hl (by decide) rfl (fun ls hl => ?_)
    refine lv_aload_n hx hb dX7_doLine_43 rfl (lv_at hl 2 rfl) ?_
    refine cg_Player_pile hC hW hin_X3 hl_302 (by omega) dX7_doLine_44 ?_
    refine lv_aload_n hx hb dX7_doLine_47 rfl (lv_at hl 2 rfl) ?_
    refine cg_Player_height hC hW hin_X3 hl_174 (by omega) (v := σ3 5 p 0) rfl dX7_doLine_48 ?_
    refine k_iconst hC dX7_doLine_51 ?_
    refine k_isub hC dX7_doLine_52 ?_
    refine ca_pile hC hW (by omega) (by omega) dX7_doLine_53 ?_
    refine lv_astore (lv' := [(4, .ref (ad 6 (8 + 4 * p + ((σ3 5 p 0) - 1)))), (3, .int (zi (σ3 4 p (σ3 5 p 0 - 1)))), (0, .ref (ad 0 0)), (1, .ref (ad 10 p)), (2, .int (zi p))]) hx hb dX7_doLine_54 hl (by decide) rfl (fun ls hl => ?_)
    refine lv_aload_n hx hb dX7_doLine_56 rfl (lv_at hl 3 rfl) ?_
    refine lv_iload_n hx hb dX7_doLine_57 rfl (lv_at hl 1 rfl) ?_
    refine k_iconst hC dX7_doLine_58 ?_
    refine k_iadd hC dX7_doLine_59 ?_
    refine k_callV (As := [.int (zi ((σ3 4 p (σ3 5 p 0 - 1)) + 1))]) (rest := []) hX hl.1 (m_goOnAt hI σ3 p ((σ3 4 p (σ3 5 p 0 - 1)) + 1) hp (by omega)) (cwV 1 hts gX7_doLine_X3_goOnAt rfl rfl rfl (by decide +kernel) ⟨Nat.le_of_ble_eq_true rfl, Nat.le_of_ble_eq_true rfl⟩) (rc_Player hC hW (by omega)) hW hS ⟨Nat.zero_le _, Nat.zero_le _⟩ rfl rfl (Nat.le_of_ble_eq_true rfl) dX7_doLine_60 (fun H locs hW hS _ _ => ?_)
    obtain ⟨σ4, hσ4⟩ : ∃ z, z = ups σ3 4 p (σ3 5 p 0 - 1) ((σ3 4 p (σ3 5 p 0 - 1)) + 1) := ⟨_, rfl⟩
    rw [← hσ4] at hW
    refine lv_aload_n hx hb dX7_doLine_63 rfl (lv_at hl 2 rfl) ?_
    refine lv_aload_n hx hb dX7_doLine_64 rfl (lv_at hl 3 rfl) ?_
    refine lv_iload_n hx hb dX7_doLine_65 rfl (lv_at hl 4 rfl) ?_
    refine lv_aload hx hb dX7_doLine_66 (lv_at hl 0 rfl) ?_
    refine cg_Reel_kinds hC hW hin_X5 hl_89 (by omega) dX7_doLine_68 ?_
    refine lv_iload_n hx hb dX7_doLine_71 rfl (lv_at hl 1 rfl) ?_
    have r3 := r2 (σ3 4 p (σ3 5 p 0 - 1)) (by omega) (by omega)
    refine ca_kinds hC hW (by omega) (by omega) (v := σ3 1 (8 + 4 * p + ((σ3 5 p 0) - 1)) (σ3 4 p (σ3 5 p 0 - 1))) (by rw [hσ4, ups_t _ (by decide)]) dX7_doLine_72 ?_
    refine lv_aload hx hb dX7_doLine_73 (lv_at hl 0 rfl) ?_
    refine cg_Reel_numbers hC hW hin_X5 hl_308 (by omega) dX7_doLine_75 ?_
    refine lv_iload_n hx hb dX7_doLine_78 rfl (lv_at hl 1 rfl) ?_
    refine ca_numbers hC hW (by omega) (by omega) (v := σ3 2 (8 + 4 * p + ((σ3 5 p 0) - 1)) (σ3 4 p (σ3 5 p 0 - 1))) (by rw [hσ4, ups_t _ (by decide)]) dX7_doLine_79 ?_
    have hJ : Inv N M σ4 := by rw [hσ4]; exact Inv_o4 hJI (by omega)
    refine k_callR (As := [.ref (ad 10 p), .int (zi p), .int (zi (σ3 1 (8 + 4 * p + ((σ3 5 p 0) - 1)) (σ3 4 p (σ3 5 p 0 - 1)))), .int (zi (σ3 2 (8 + 4 * p + ((σ3 5 p 0) - 1)) (σ3 4 p (σ3 5 p 0 - 1))))]) (rest := []) hX hl.1 (m_obey hI σ4 p (σ3 1 (8 + 4 * p + ((σ3 5 p 0) - 1)) (σ3 4 p (σ3 5 p 0 - 1))) (σ3 2 (8 + 4 * p + ((σ3 5 p 0) - 1)) (σ3 4 p (σ3 5 p 0 - 1))) hJ hp (by rw [hσ4, ups_t _ (by decide)]; exact f6) (by rw [hσ4, ups_t _ (by decide)]; exact f11) (by rw [hσ4, ups_t _ (by decide)]; exact f8) (r3.2 (by omega)) hN) (cwV 4 hts gX7_doLine_X7_obey rfl rfl rfl (by decide +kernel) ⟨Nat.le_of_ble_eq_true rfl, Nat.le_of_ble_eq_true rfl⟩) (rc_KR hC hW) hW hS ⟨Nat.zero_le _, Nat.zero_le _⟩ rfl rfl (Nat.le_of_ble_eq_true rfl) dX7_doLine_80 (fun H locs hW hS _ _ => ?_)
    obtain ⟨σ5, hσ5⟩ : ∃ z, z = fObey σ4 p (σ3 1 (8 + 4 * p + ((σ3 5 p 0) - 1)) (σ3 4 p (σ3 5 p 0 - 1))) (σ3 2 (8 + 4 * p + ((σ3 5 p 0) - 1)) (σ3 4 p (σ3 5 p 0 - 1))) := ⟨_, rfl⟩
    rw [← hσ5] at hW
    have hW : WP Dg ccnt ad (cE cA ad (fLine σ p)) _ := (sw hW (by rw [hσ5, hσ4, fLine, ← hend, fDo, if_neg (by omega), fStep]))
    exact k_aret2 hX (by rw [hσ4, oLine, ← hend, oDo, if_neg (by omega), fStep]) hW hS dX7_doLine_83 ⟨_, rfl⟩
  · refine lv_aload_n hx hb dX7_doLine_21 rfl (lv_at hl 1 rfl) ?_
    refine lv_aload_n hx hb dX7_doLine_22 rfl (lv_at hl 0 rfl) ?_
    refine cg_KR_reels hC hW hin_X7 hl_11 dX7_doLine_23 ?_
    refine lv_aload_n hx hb dX7_doLine_26 rfl (lv_at hl 1 rfl) ?_
    refine cg_Player_firstList hC hW hin_X3 hl_295 (by omega) (v := σ3 7 p 0) rfl dX7_doLine_27 ?_
    refine ca_reels hC hW (by omega) dX7_doLine_30 ?_
    refine k_callV (As := [.ref (ad 6 (σ3 7 p 0))]) (rest := []) hX hl.1 (m_beginPile hI σ3 p (σ3 7 p 0) hp g5.1 (hJI.R _ (by omega) (by omega)).1 (fun j a b => ((hJI.R _ (by omega) (by omega)).2 j a b).1) rfl) (cwV 1 hts gX7_doLine_X3_beginPile rfl rfl rfl (by decide +kernel) ⟨Nat.le_of_ble_eq_true rfl, Nat.le_of_ble_eq_true rfl⟩) (rc_Player hC hW (by omega)) hW hS ⟨Nat.zero_le _, Nat.zero_le _⟩ rfl rfl (Nat.le_of_ble_eq_true rfl) dX7_doLine_31 (fun H locs hW hS _ _ => ?_)
    obtain ⟨σ6, hσ6⟩ : ∃ z, z = fBegP σ3 p (σ3 7 p 0) := ⟨_, rfl⟩
    rw [← hσ6] at hW
    refine k_out 0 hX hS (by decide) hl_276 dX7_doLine_34 ?_
    have hW : WP Dg ccnt ad (cE cA ad (fLine σ p)) _ := (sw hW (by rw [hσ6, fLine, ← hend, fDo, if_pos (by omega)]))
    exact k_aret2 hX (by rw [oLine, ← hend, oDo, if_pos (by omega)]) hW hS dX7_doLine_37 ⟨_, rfl⟩
set_option maxHeartbeats 4000000 in
set_option maxRecDepth 100000 in
theorem m_takeTurn {l : Launch} {Dg : va_G} {cA : Nat → ClassId} {ad : Nat → Int → Nat} {oc : Nat → Nat} (hI : WI ccnt ad) {N M : Int} (σ : St) (p : Int) (hv : Inv N M σ) (hp : 0 ≤ p ∧ p < 6) (hs : σ 6 p 0 = 1) (h8 : 0 ≤ σ 8 p 0) (hN : N ≤ 1000000) : GI l yX7_takeTurn wsX7_takeTurn ({ frames := 4, cells := 0, slots := 0, locals := 95 } : Room) Dg cA ccnt ad oc (cE cA ad σ) [.ref (ad 0 0), .ref (ad 10 p), .int (zi p)] (fTurn σ p 30 0 0 - σ 30 0 0) (cE cA ad (fTurn σ p)) := by
  intro sz
  refine g_ent (cc := cX7_takeTurn) (maxL := 5) (ret := (some .int)) (by decide) rfl hI (Nat.le_of_ble_eq_true rfl) ?_
  intro pgm env s₀ m₀ bel mth cod hX hW hS hsz ls hl
  subst hsz
  have hC := hX.1
  have hx := hC.1
  have hb := hC.2.1
  have hts := hC.2.2.2.1
  have hl : lv_has ls 5 [(0, .ref (ad 0 0)), (1, .ref (ad 10 p)), (2, .int (zi p))] := hl
  have hin_X3 : ∀ w ∈ wsX30, w ∈ wsX7_takeTurn := by decide +kernel
  have hl_184 := hts (.fieldLink RX7 184 "KioskReel$Player" "awaitedDevice" "I") (by decide +kernel)
  have hl_187 := hts (.fieldLink RX7 187 "KioskReel$Player" "ticksToWait" "I") (by decide +kernel)
  have hl_276 := hts (.fieldLink RX7 276 "KioskReel$Outcome" "GOES_ON" "LKioskReel$Outcome;") (by decide +kernel)
  have hl_286 := hts (.fieldLink RX7 286 "KioskReel$Outcome" "SHOWN" "LKioskReel$Outcome;") (by decide +kernel)
  have hT := hv.T p hp.1 hp.2
  have hU := hv.U p hp.1 hp.2
  refine lv_aload_n hx hb dX7_takeTurn_0 rfl (lv_at hl 1 rfl) ?_
  refine cg_Player_ticksToWait hC hW hin_X3 hl_187 (by omega) (v := σ 10 p 0) rfl dX7_takeTurn_1 ?_
  refine k_if_le (tgt := 19) hC dX7_takeTurn_4 (by decide) (by omega) (fun c1 => ?_) (fun c1 => ?_)
  · refine lv_aload_n hx hb dX7_takeTurn_19 rfl (lv_at hl 1 rfl) ?_
    refine cg_Player_awaitedDevice hC hW hin_X3 hl_184 (by omega) (v := σ 11 p 0) rfl dX7_takeTurn_20 ?_
    refine k_iconst hC dX7_takeTurn_23 ?_
    refine k_icmp_eq (tgt := 29) hC dX7_takeTurn_24 (by decide) (by omega) (fun c2 => ?_) (fun c2 => ?_)
    · refine k_out 0 hX hS (by decide) hl_276 dX7_takeTurn_29 ?_
      refine lv_astore_n (lv' := [(3, .ref (oc 0)), (0, .ref (ad 0 0)), (1, .ref (ad 10 p)), (2, .int (zi p))]) hx hb dX7_takeTurn_32 rfl hl (by decide) rfl (fun ls hl => ?_)
      refine k_iconst hC dX7_takeTurn_33 ?_
      refine lv_istore (lv' := [(4, .int (zi 0)), (3, .ref (oc 0)), (0, .ref (ad 0 0)), (1, .ref (ad 10 p)), (2, .int (zi p))]) hx hb dX7_takeTurn_34 hl (by decide) rfl (fun ls hl => ?_)
      have loop_36 : ∀ (fuel : Nat) (τ : St) (i : Int) (o : Nat), 8 - i < (fuel : Int) → (0 ≤ i ∧ i ≤ 8) → (TurnI N M σ p τ i o) → ∀ (H : Heap) (locs : List Loc), WP Dg ccnt ad (cE cA ad τ) H → va_S (WA ccnt ad s₀.heap.size) s₀.heap H locs → ∀ ls : Array Slot, lv_has ls 5 [(4, .int (zi i)), (3, .ref (oc o)), (0, .ref (ad 0 0)), (1, .ref (ad 10 p)), (2, .int (zi p))] → W pgm l env ({ frames := 4, cells := 0, slots := 0, locals := 95 } : Room) s₀ m₀ ([.ref (ad 0 0), .ref (ad 10 p), .int (zi p)] : List Value).toArray bel mth cod H locs 0 0 (MQ bel (va_Qi (fun (rr : Int32) (_ : Unit) => rr = zi (fTurn σ p 30 0 0 - σ 30 0 0)) (gB Dg ccnt ad (cE cA ad (fTurn σ p))) (WA ccnt ad s₀.heap.size)) ([.ref (ad 0 0), .ref (ad 10 p), .int (zi p)] : List Value).toArray s₀ 0 0 (WA ccnt ad s₀.heap.size)) (F0 m₀ 36 ls []) := by
        intro fuel
        induction fuel with
        | zero => intro τ i o hn i1 i2; exact absurd hn (by omega)
        | succ fuel ih_36 =>
          intro τ i o hn i1 i2 H locs hW hS ls hl
          refine lv_iload hx hb dX7_takeTurn_36 (lv_at hl 0 rfl) ?_
          refine k_bipush hC dX7_takeTurn_38 (by decide) ?_
          refine k_icmp_ge (tgt := 63) hC dX7_takeTurn_40 (by decide) (by omega) (fun c3 => ?_) (fun c3 => ?_)
          · obtain ⟨e1, e2⟩ := turn_end i2 (by omega)
            refine lv_aload_n hx hb dX7_takeTurn_63 rfl (lv_at hl 1 rfl) ?_
            refine k_out 1 hX hS (by decide) hl_286 dX7_takeTurn_64 ?_
            rcases Classical.em (o = 1) with hac | hac
            · refine k_acmp_ne_f (tgt := 74) hC dX7_takeTurn_67 (by decide) (by rw [hac]) ?_
              refine k_iconst hC dX7_takeTurn_70 ?_
              refine lv_goto (tgt := 75) hx hb dX7_takeTurn_71 (by decide) ?_
              have hW : WP Dg ccnt ad (cE cA ad (fTurn σ p)) _ := (sw hW (by rw [fTurn_go (by omega) (by omega)]; exact e1))
              exact k_iret hX (by rw [fTurn_go (by omega) (by omega), ← e1, e2]; first | rw [if_pos hac]; omega | rw [if_neg hac]; omega) hW hS dX7_takeTurn_75
            · refine k_acmp_ne_t (tgt := 74) hC dX7_takeTurn_67 (by decide) (oc_ne hX i2.le (by decide) hac) ?_
              refine k_iconst hC dX7_takeTurn_74 ?_
              have hW : WP Dg ccnt ad (cE cA ad (fTurn σ p)) _ := (sw hW (by rw [fTurn_go (by omega) (by omega)]; exact e1))
              exact k_iret hX (by rw [fTurn_go (by omega) (by omega), ← e1, e2]; first | rw [if_pos hac]; omega | rw [if_neg hac]; omega) hW hS dX7_takeTurn_75
          · refine lv_aload_n hx hb dX7_takeTurn_43 rfl (lv_at hl 1 rfl) ?_
            refine k_out 0 hX hS (by decide) hl_276 dX7_takeTurn_44 ?_
            rcases Classical.em (o = 0) with hac | hac
            · refine k_acmp_ne_f (tgt := 63) hC dX7_takeTurn_47 (by decide) (by rw [hac]) ?_
              obtain ⟨-, j1, j2, j3, j4, j5, j6⟩ := i2.resolve_right (fun z => z.1 hac)
              refine lv_aload_n hx hb dX7_takeTurn_50 rfl (lv_at hl 2 rfl) ?_
              refine lv_aload_n hx hb dX7_takeTurn_51 rfl (lv_at hl 3 rfl) ?_
              refine lv_iload_n hx hb dX7_takeTurn_52 rfl (lv_at hl 4 rfl) ?_
              refine k_callR (As := [.ref (ad 10 p), .int (zi p)]) (rest := []) hX hl.1 (m_doLine hI τ p j3 hp j4 j5 (by omega) hN) (cwV 2 hts gX7_takeTurn_X7_doLine rfl rfl rfl (by decide +kernel) ⟨Nat.le_of_ble_eq_true rfl, Nat.le_of_ble_eq_true rfl⟩) (rc_KR hC hW) hW hS ⟨Nat.zero_le _, Nat.zero_le _⟩ rfl rfl (Nat.le_of_ble_eq_true rfl) dX7_takeTurn_53 (fun H locs hW hS _ _ => ?_)
              obtain ⟨σ1, hσ1⟩ : ∃ z, z = fLine τ p := ⟨_, rfl⟩
              rw [← hσ1] at hW
              refine lv_astore_n (lv' := [(3, .ref (oc (oLine τ p))), (4, .int (zi i)), (0, .ref (ad 0 0)), (1, .ref (ad 10 p)), (2, .int (zi p))]) hx hb dX7_takeTurn_56 rfl hl (by decide) rfl (fun ls hl => ?_)
              refine k_iinc (a := i) (lv' := [(4, .int (zi (i + 1))), (3, .ref (oc (oLine τ p))), (0, .ref (ad 0 0)), (1, .ref (ad 10 p)), (2, .int (zi p))]) hC dX7_takeTurn_57 hl (k := 1) rfl (by decide) rfl (fun ls hl => ?_)
              refine lv_goto (tgt := 36) hx hb dX7_takeTurn_60 (by decide) ?_
              have hl := Eq.mp (congrArg (fun z : Int => lv_has ls 5 [(4, .int (zi z)), (3, .ref (oc (oLine τ p))), (0, .ref (ad 0 0)), (1, .ref (ad 10 p)), (2, .int (zi p))]) (show (i + 1 : Int) = (i + 1) by omega)) hl
              exact ih_36 σ1 (i + 1) (oLine τ p) (by omega) (by omega) (by rw [hσ1]; exact turn_step i2 hac hp (by omega)) _ _ hW hS _ (lv_sub hl [0, 1, 2, 3, 4] rfl)
            · refine k_acmp_ne_t (tgt := 63) hC dX7_takeTurn_47 (by decide) (oc_ne hX i2.le (by decide) hac) ?_
              obtain ⟨e1, e2⟩ := turn_end i2 (by omega)
              refine lv_aload_n hx hb dX7_takeTurn_63 rfl (lv_at hl 1 rfl) ?_
              refine k_out 1 hX hS (by decide) hl_286 dX7_takeTurn_64 ?_
              rcases Classical.em (o = 1) with hac | hac
              · refine k_acmp_ne_f (tgt := 74) hC dX7_takeTurn_67 (by decide) (by rw [hac]) ?_
                refine k_iconst hC dX7_takeTurn_70 ?_
                refine lv_goto (tgt := 75) hx hb dX7_takeTurn_71 (by decide) ?_
                have hW : WP Dg ccnt ad (cE cA ad (fTurn σ p)) _ := (sw hW (by rw [fTurn_go (by omega) (by omega)]; exact e1))
                exact k_iret hX (by rw [fTurn_go (by omega) (by omega), ← e1, e2]; first | rw [if_pos hac]; omega | rw [if_neg hac]; omega) hW hS dX7_takeTurn_75
              · refine k_acmp_ne_t (tgt := 74) hC dX7_takeTurn_67 (by decide) (oc_ne hX i2.le (by decide) hac) ?_
                refine k_iconst hC dX7_takeTurn_74 ?_
                have hW : WP Dg ccnt ad (cE cA ad (fTurn σ p)) _ := (sw hW (by rw [fTurn_go (by omega) (by omega)]; exact e1))
                exact k_iret hX (by rw [fTurn_go (by omega) (by omega), ← e1, e2]; first | rw [if_pos hac]; omega | rw [if_neg hac]; omega) hW hS dX7_takeTurn_75
      exact loop_36 (Int.toNat (8 - 0) + 1) σ 0 0 (by omega) (by omega) (Or.inl ⟨rfl, rfl, rfl, hv, hs, by omega, rfl⟩) _ _ hW hS _ (lv_sub hl [0, 1, 2, 3, 4] rfl)
    · refine k_iconst hC dX7_takeTurn_27 ?_
      have hW : WP Dg ccnt ad (cE cA ad (fTurn σ p)) _ := (sw hW (by rw [fTurn, if_neg (by omega), if_pos (by omega)]))
      exact k_iret hX (by rw [fTurn, if_neg (by omega), if_pos (by omega)]; omega) hW hS dX7_takeTurn_28
  · refine lv_aload_n hx hb dX7_takeTurn_7 rfl (lv_at hl 1 rfl) ?_
    refine lv_dup hx hb dX7_takeTurn_8 rfl ?_
    refine cg_Player_ticksToWait hC hW hin_X3 hl_187 (by omega) (v := σ 10 p 0) rfl dX7_takeTurn_9 ?_
    refine k_iconst hC dX7_takeTurn_12 ?_
    refine k_isub hC dX7_takeTurn_13 ?_
    refine cp_Player_ticksToWait hC hW hin_X3 hl_187 (by omega) hS dX7_takeTurn_14 (fun H locs hW hS => ?_)
    obtain ⟨σ2, hσ2⟩ : ∃ z, z = ups σ 10 p 0 ((σ 10 p 0) - 1) := ⟨_, rfl⟩
    rw [← hσ2] at hW
    refine k_iconst hC dX7_takeTurn_17 ?_
    have hW : WP Dg ccnt ad (cE cA ad (fTurn σ p)) _ := (sw hW (by rw [hσ2, fTurn, if_pos (by omega)]))
    exact k_iret hX (by rw [fTurn, if_pos (by omega), ups_t _ (by decide)]; omega) hW hS dX7_takeTurn_18
end M3
