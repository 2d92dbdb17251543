section M5
set_option maxHeartbeats 4000000 in
set_option maxRecDepth 100000 in
theorem m_list {l : Launch} {Dg : va_G} {cA : Nat → ClassId} {ad : Nat → Int → Nat} {oc : Nat → Nat} (hI : WI ccnt ad) (σ : St) (h1 : 0 ≤ σ 26 0 0 ∧ σ 26 0 0 < 8) : GI l yX7_list wsX7_list ({ frames := 6, cells := 0, slots := 0, locals := 90 } : Room) Dg cA ccnt ad oc (cE cA ad σ) [.ref (ad 0 0)] (σ 26 0 0) (cE cA ad (ups σ 26 0 0 (σ 26 0 0 + 1))) := by
  intro sz
  refine g_ent (cc := cX7_list) (maxL := 1) (ret := (some .int)) (by decide) rfl hI (Nat.le_of_ble_eq_true rfl) ?_
  intro pgm env s₀ m₀ bel mth cod hX hW hS hsz ls hl
  subst hsz
  have hC := hX.1
  have hx := hC.1
  have hb := hC.2.1
  have hts := hC.2.2.2.1
  have hl : lv_has ls 1 [(0, .ref (ad 0 0))] := hl
  have hin_X7 : ∀ w ∈ wsX70, w ∈ wsX7_list := by decide +kernel
  have hl_44 := hts (.fieldLink RX7 44 "KioskReel" "reelCount" "I") (by decide +kernel)
  refine lv_aload_n hx hb dX7_list_0 rfl (lv_at hl 0 rfl) ?_
  refine cg_KR_reelCount hC hW hin_X7 hl_44 (v := σ 26 0 0) rfl dX7_list_1 ?_
  refine k_bipush hC dX7_list_4 (by decide) ?_
  refine k_icmp_lt (tgt := 19) hC dX7_list_6 (by decide) (by omega) (fun c1 => ?_) (fun c1 => absurd c1 (by omega))
  refine lv_aload_n hx hb dX7_list_19 rfl (lv_at hl 0 rfl) ?_
  refine lv_dup hx hb dX7_list_20 rfl ?_
  refine cg_KR_reelCount hC hW hin_X7 hl_44 (v := σ 26 0 0) rfl dX7_list_21 ?_
  refine k_iconst hC dX7_list_24 ?_
  refine k_iadd hC dX7_list_25 ?_
  refine cp_KR_reelCount hC hW hin_X7 hl_44 hS dX7_list_26 (fun H locs hW hS => ?_)
  obtain ⟨σ1, hσ1⟩ : ∃ z, z = ups σ 26 0 0 ((σ 26 0 0) + 1) := ⟨_, rfl⟩
  rw [← hσ1] at hW
  refine lv_aload_n hx hb dX7_list_29 rfl (lv_at hl 0 rfl) ?_
  refine cg_KR_reelCount hC hW hin_X7 hl_44 (v := (σ 26 0 0) + 1) (by rw [hσ1, ups_eq]) dX7_list_30 ?_
  refine k_iconst hC dX7_list_33 ?_
  refine k_isub hC dX7_list_34 ?_
  have hW : WP Dg ccnt ad (cE cA ad (ups σ 26 0 0 (σ 26 0 0 + 1))) _ := (sw hW (by rw [hσ1]))
  exact k_iret hX (by omega) hW hS dX7_list_35
set_option maxHeartbeats 4000000 in
set_option maxRecDepth 100000 in
theorem m_list_s {l : Launch} {Dg : va_G} {cA : Nat → ClassId} {ad : Nat → Int → Nat} {oc : Nat → Nat} (hI : WI ccnt ad) (hfl : l.stackTraces = false) (σ : St) (h1 : σ 26 0 0 = 8) : GX l yX7_list wsX7_list ({ frames := 6, cells := 1, slots := 6, locals := 90 } : Room) Dg cA ccnt ad oc (cE cA ad σ) [.ref (ad 0 0)] "java/lang/IllegalStateException" := by
  intro sz
  refine gx_ent (cc := cX7_list) (maxL := 1) (ret := (some .int)) (by decide) rfl hI (Nat.le_of_ble_eq_true rfl) ?_
  intro pgm env s₀ m₀ bel mth cod hX hno hW hS hsz ls hl
  subst hsz
  have hC := hX.1
  have hx := hC.1
  have hb := hC.2.1
  have hts := hC.2.2.2.1
  have hl : lv_has ls 1 [(0, .ref (ad 0 0))] := hl
  have hin_X7 : ∀ w ∈ wsX70, w ∈ wsX7_list := by decide +kernel
  have hl_44 := hts (.fieldLink RX7 44 "KioskReel" "reelCount" "I") (by decide +kernel)
  refine lv_aload_n hx hb dX7_list_0 rfl (lv_at hl 0 rfl) ?_
  refine cg_KR_reelCount hC hW hin_X7 hl_44 (v := σ 26 0 0) rfl dX7_list_1 ?_
  refine k_bipush hC dX7_list_4 (by decide) ?_
  refine k_icmp_lt (tgt := 19) hC dX7_list_6 (by decide) (by omega) (fun c1 => absurd c1 (by omega)) (fun c1 => ?_)
  exact k_throw (rest := []) (text := "there are 8 lists") hX rfl hno hl.1 hfl (by decide +kernel) (by decide +kernel) (by decide +kernel) (by decide +kernel) (by decide +kernel) (by decide +kernel) (by decide +kernel) hW hS dX7_list_9 dX7_list_12 dX7_list_13 dX7_list_15 dX7_list_18 ⟨Nat.le_of_ble_eq_true rfl, Nat.le_of_ble_eq_true rfl, Nat.le_of_ble_eq_true rfl, Nat.le_of_ble_eq_true rfl⟩
set_option maxHeartbeats 4000000 in
set_option maxRecDepth 100000 in
theorem m_kiosk {l : Launch} {Dg : va_G} {cA : Nat → ClassId} {ad : Nat → Int → Nat} {oc : Nat → Nat} (hI : WI ccnt ad) (σ : St) (h1 : 0 ≤ σ 27 0 0 ∧ σ 27 0 0 < 6) : GI l yX7_kiosk wsX7_kiosk ({ frames := 6, cells := 0, slots := 0, locals := 90 } : Room) Dg cA ccnt ad oc (cE cA ad σ) [.ref (ad 0 0)] (σ 27 0 0) (cE cA ad (ups σ 27 0 0 (σ 27 0 0 + 1))) := by
  intro sz
  refine g_ent (cc := cX7_kiosk) (maxL := 1) (ret := (some .int)) (by decide) rfl hI (Nat.le_of_ble_eq_true rfl) ?_
  intro pgm env s₀ m₀ bel mth cod hX hW hS hsz ls hl
  subst hsz
  have hC := hX.1
  have hx := hC.1
  have hb := hC.2.1
  have hts := hC.2.2.2.1
  have hl : lv_has ls 1 [(0, .ref (ad 0 0))] := hl
  have hin_X7 : ∀ w ∈ wsX70, w ∈ wsX7_kiosk := by decide +kernel
  have hl_99 := hts (.fieldLink RX7 99 "KioskReel" "kioskCount" "I") (by decide +kernel)
  refine lv_aload_n hx hb dX7_kiosk_0 rfl (lv_at hl 0 rfl) ?_
  refine cg_KR_kioskCount hC hW hin_X7 hl_99 (v := σ 27 0 0) rfl dX7_kiosk_1 ?_
  refine k_bipush hC dX7_kiosk_4 (by decide) ?_
  refine k_icmp_lt (tgt := 19) hC dX7_kiosk_6 (by decide) (by omega) (fun c1 => ?_) (fun c1 => absurd c1 (by omega))
  refine lv_aload_n hx hb dX7_kiosk_19 rfl (lv_at hl 0 rfl) ?_
  refine lv_dup hx hb dX7_kiosk_20 rfl ?_
  refine cg_KR_kioskCount hC hW hin_X7 hl_99 (v := σ 27 0 0) rfl dX7_kiosk_21 ?_
  refine k_iconst hC dX7_kiosk_24 ?_
  refine k_iadd hC dX7_kiosk_25 ?_
  refine cp_KR_kioskCount hC hW hin_X7 hl_99 hS dX7_kiosk_26 (fun H locs hW hS => ?_)
  obtain ⟨σ1, hσ1⟩ : ∃ z, z = ups σ 27 0 0 ((σ 27 0 0) + 1) := ⟨_, rfl⟩
  rw [← hσ1] at hW
  refine lv_aload_n hx hb dX7_kiosk_29 rfl (lv_at hl 0 rfl) ?_
  refine cg_KR_kioskCount hC hW hin_X7 hl_99 (v := (σ 27 0 0) + 1) (by rw [hσ1, ups_eq]) dX7_kiosk_30 ?_
  refine k_iconst hC dX7_kiosk_33 ?_
  refine k_isub hC dX7_kiosk_34 ?_
  have hW : WP Dg ccnt ad (cE cA ad (ups σ 27 0 0 (σ 27 0 0 + 1))) _ := (sw hW (by rw [hσ1]))
  exact k_iret hX (by omega) hW hS dX7_kiosk_35
set_option maxHeartbeats 4000000 in
set_option maxRecDepth 100000 in
theorem m_kiosk_s {l : Launch} {Dg : va_G} {cA : Nat → ClassId} {ad : Nat → Int → Nat} {oc : Nat → Nat} (hI : WI ccnt ad) (hfl : l.stackTraces = false) (σ : St) (h1 : σ 27 0 0 = 6) : GX l yX7_kiosk wsX7_kiosk ({ frames := 6, cells := 1, slots := 6, locals := 90 } : Room) Dg cA ccnt ad oc (cE cA ad σ) [.ref (ad 0 0)] "java/lang/IllegalStateException" := by
  intro sz
  refine gx_ent (cc := cX7_kiosk) (maxL := 1) (ret := (some .int)) (by decide) rfl hI (Nat.le_of_ble_eq_true rfl) ?_
  intro pgm env s₀ m₀ bel mth cod hX hno hW hS hsz ls hl
  subst hsz
  have hC := hX.1
  have hx := hC.1
  have hb := hC.2.1
  have hts := hC.2.2.2.1
  have hl : lv_has ls 1 [(0, .ref (ad 0 0))] := hl
  have hin_X7 : ∀ w ∈ wsX70, w ∈ wsX7_kiosk := by decide +kernel
  have hl_99 := hts (.fieldLink RX7 99 "KioskReel" "kioskCount" "I") (by decide +kernel)
  refine lv_aload_n hx hb dX7_kiosk_0 rfl (lv_at hl 0 rfl) ?_
  refine cg_KR_kioskCount hC hW hin_X7 hl_99 (v := σ 27 0 0) rfl dX7_kiosk_1 ?_
  refine k_bipush hC dX7_kiosk_4 (by decide) ?_
  refine k_icmp_lt (tgt := 19) hC dX7_kiosk_6 (by decide) (by omega) (fun c1 => absurd c1 (by omega)) (fun c1 => ?_)
  exact k_throw (rest := []) (text := "there are 6 kiosks") hX rfl hno hl.1 hfl (by decide +kernel) (by decide +kernel) (by decide +kernel) (by decide +kernel) (by decide +kernel) (by decide +kernel) (by decide +kernel) hW hS dX7_kiosk_9 dX7_kiosk_12 dX7_kiosk_13 dX7_kiosk_15 dX7_kiosk_18 ⟨Nat.le_of_ble_eq_true rfl, Nat.le_of_ble_eq_true rfl, Nat.le_of_ble_eq_true rfl, Nat.le_of_ble_eq_true rfl⟩
set_option maxHeartbeats 4000000 in
set_option maxRecDepth 100000 in
theorem m_line {l : Launch} {Dg : va_G} {cA : Nat → ClassId} {ad : Nat → Int → Nat} {oc : Nat → Nat} (hI : WI ccnt ad) {N M : Int} (σ : St) (a place k n : Int) (hv : Inv N M σ) (hl0 : 0 ≤ a ∧ a < σ 26 0 0) (hpl : 0 ≤ place ∧ place ≤ σ 3 a 0) (hkc : 0 ≤ k ∧ k < 65536) (hkm : mostN k ≠ -1) (hnn : leastN k ≤ n ∧ n ≤ mostN k) (h20 : σ 3 a 0 < 20) : GI l yX7_line wsX7_line ({ frames := 7, cells := 0, slots := 0, locals := 111 } : Room) Dg cA ccnt ad oc (cE cA ad σ) [.ref (ad 0 0), .int (zi a), .int (zi place), .int (zi k), .int (zi n)] (σ 3 a 0 + 1) (cE cA ad (fIns σ a place k n)) := by
  intro sz
  refine g_ent (cc := cX7_line) (maxL := 6) (ret := (some .int)) (by decide) rfl hI (Nat.le_of_ble_eq_true rfl) ?_
  intro pgm env s₀ m₀ bel mth cod hX hW hS hsz ls hl
  subst hsz
  have hC := hX.1
  have hx := hC.1
  have hb := hC.2.1
  have hts := hC.2.2.2.1
  have hl : lv_has ls 6 [(0, .ref (ad 0 0)), (1, .int (zi a)), (2, .int (zi place)), (3, .int (zi k)), (4, .int (zi n))] := hl
  have hin_X5 : ∀ w ∈ wsX50, w ∈ wsX7_line := by decide +kernel
  have hin_X7 : ∀ w ∈ wsX70, w ∈ wsX7_line := by decide +kernel
  have hl_11 := hts (.fieldLink RX7 11 "KioskReel" "reels" "[LKioskReel$Reel;") (by decide +kernel)
  have hl_59 := hts (.fieldLink RX7 59 "KioskReel$Reel" "size" "I") (by decide +kernel)
  have hA := hv.A
  unfold IvA at hA
  obtain ⟨r1, r2⟩ := hv.R a (by omega) (by omega)
  have mr := mostN_rng k
  have lr := leastN_rng k
  refine lv_aload_n hx hb dX7_line_0 rfl (lv_at hl 0 rfl) ?_
  refine lv_iload_n hx hb dX7_line_1 rfl (lv_at hl 1 rfl) ?_
  refine k_callV (As := [.int (zi a)]) (rest := []) hX hl.1 (m_checkList hI σ a hl0 (by omega)) (cwV 1 hts gX7_line_X7_checkList rfl rfl rfl (by decide +kernel) ⟨Nat.le_of_ble_eq_true rfl, Nat.le_of_ble_eq_true rfl⟩) (rc_KR hC hW) hW hS ⟨Nat.zero_le _, Nat.zero_le _⟩ rfl rfl (Nat.le_of_ble_eq_true rfl) dX7_line_2 (fun H locs hW hS _ _ => ?_)
  refine lv_aload_n hx hb dX7_line_5 rfl (lv_at hl 0 rfl) ?_
  refine cg_KR_reels hC hW hin_X7 hl_11 dX7_line_6 ?_
  refine lv_iload_n hx hb dX7_line_9 rfl (lv_at hl 1 rfl) ?_
  refine ca_reels hC hW (by omega) dX7_line_10 ?_
  refine lv_astore (lv' := [(5, .ref (ad 6 a)), (0, .ref (ad 0 0)), (1, .int (zi a)), (2, .int (zi place)), (3, .int (zi k)), (4, .int (zi n))]) hx hb dX7_line_11 hl (by decide) rfl (fun ls hl => ?_)
  refine lv_iload_n hx hb dX7_line_13 rfl (lv_at hl 3 rfl) ?_
  refine k_if_lt (tgt := 26) hC dX7_line_14 (by decide) (by omega) (fun c1 => absurd c1 (by omega)) (fun c1 => ?_)
  refine lv_iload_n hx hb dX7_line_17 rfl (lv_at hl 3 rfl) ?_
  refine lv_aload hx hb dX7_line_18 (lv_at hl 0 rfl) ?_
  refine cg_Reel_size hC hW hin_X5 hl_59 (by omega) (v := σ 3 a 0) rfl dX7_line_20 ?_
  refine k_icmp_le (tgt := 36) hC dX7_line_23 (by decide) (by omega) (fun c2 => ?_) (fun c2 => absurd c2 (by omega))
  refine lv_iload_n hx hb dX7_line_36 rfl (lv_at hl 4 rfl) ?_
  refine k_callSV (As := [.int (zi k)]) (rest := []) hX hl.1 (m_checkKind hI σ k hkc hkm) (cwS 1 hts gX7_line_X7_checkKind rfl rfl rfl (by decide +kernel) ⟨Nat.le_of_ble_eq_true rfl, Nat.le_of_ble_eq_true rfl⟩) hW hS ⟨Nat.zero_le _, Nat.zero_le _⟩ rfl rfl (Nat.le_of_ble_eq_true rfl) dX7_line_37 (fun H locs hW hS _ _ => ?_)
  refine lv_iload hx hb dX7_line_40 (lv_at hl 5 rfl) ?_
  refine lv_iload_n hx hb dX7_line_42 rfl (lv_at hl 4 rfl) ?_
  refine k_callSI (As := [.int (zi k)]) (rest := [.int (zi n)]) hX hl.1 (m_leastNumber hI σ k hkc) (cwS 1 hts gX7_line_X7_leastNumber rfl rfl rfl (by decide +kernel) ⟨Nat.le_of_ble_eq_true rfl, Nat.le_of_ble_eq_true rfl⟩) hW hS ⟨Nat.zero_le _, Nat.zero_le _⟩ rfl rfl (Nat.le_of_ble_eq_true rfl) dX7_line_43 (fun H locs hW hS _ _ => ?_)
  refine k_icmp_lt (tgt := 58) hC dX7_line_46 (by decide) (by omega) (fun c3 => absurd c3 (by omega)) (fun c3 => ?_)
  refine lv_iload hx hb dX7_line_49 (lv_at hl 5 rfl) ?_
  refine lv_iload_n hx hb dX7_line_51 rfl (lv_at hl 4 rfl) ?_
  refine k_callSI (As := [.int (zi k)]) (rest := [.int (zi n)]) hX hl.1 (m_mostNumber hI σ k hkc) (cwS 1 hts gX7_line_X7_mostNumber rfl rfl rfl (by decide +kernel) ⟨Nat.le_of_ble_eq_true rfl, Nat.le_of_ble_eq_true rfl⟩) hW hS ⟨Nat.zero_le _, Nat.zero_le _⟩ rfl rfl (Nat.le_of_ble_eq_true rfl) dX7_line_52 (fun H locs hW hS _ _ => ?_)
  refine k_icmp_le (tgt := 68) hC dX7_line_55 (by decide) (by omega) (fun c4 => ?_) (fun c4 => absurd c4 (by omega))
  refine lv_aload hx hb dX7_line_68 (lv_at hl 0 rfl) ?_
  refine cg_Reel_size hC hW hin_X5 hl_59 (by omega) (v := σ 3 a 0) rfl dX7_line_70 ?_
  refine k_bipush hC dX7_line_73 (by decide) ?_
  refine k_icmp_lt (tgt := 88) hC dX7_line_75 (by decide) (by omega) (fun c5 => ?_) (fun c5 => absurd c5 (by omega))
  refine lv_aload hx hb dX7_line_88 (lv_at hl 0 rfl) ?_
  refine lv_iload_n hx hb dX7_line_90 rfl (lv_at hl 3 rfl) ?_
  refine lv_iload_n hx hb dX7_line_91 rfl (lv_at hl 4 rfl) ?_
  refine lv_iload hx hb dX7_line_92 (lv_at hl 5 rfl) ?_
  refine k_callV (As := [.int (zi place), .int (zi k), .int (zi n)]) (rest := []) hX hl.1 (m_insertAt hI σ a place k n (by omega) hpl h20 hkc (fun j x y => (r2 j x y).1)) (cwV 3 hts gX7_line_X5_insertAt rfl rfl rfl (by decide +kernel) ⟨Nat.le_of_ble_eq_true rfl, Nat.le_of_ble_eq_true rfl⟩) (rc_Reel hC hW (by omega)) hW hS ⟨Nat.zero_le _, Nat.zero_le _⟩ rfl rfl (Nat.le_of_ble_eq_true rfl) dX7_line_94 (fun H locs hW hS _ _ => ?_)
  obtain ⟨σ1, hσ1⟩ : ∃ z, z = fIns σ a place k n := ⟨_, rfl⟩
  rw [← hσ1] at hW
  refine lv_aload hx hb dX7_line_97 (lv_at hl 0 rfl) ?_
  refine cg_Reel_size hC hW hin_X5 hl_59 (by omega) (v := σ1 3 a 0) rfl dX7_line_99 ?_
  have hW : WP Dg ccnt ad (cE cA ad (fIns σ a place k n)) _ := (sw hW (by rw [hσ1]))
  exact k_iret hX (by rw [hσ1, fIns, ups_eq]) hW hS dX7_line_102
set_option maxHeartbeats 4000000 in
set_option maxRecDepth 100000 in
theorem m_line_x {l : Launch} {Dg : va_G} {cA : Nat → ClassId} {ad : Nat → Int → Nat} {oc : Nat → Nat} (hI : WI ccnt ad) (hfl : l.stackTraces = false) {N M : Int} (σ : St) (a place k n : Int) (hv : Inv N M σ) (h1 : ¬ (0 ≤ a ∧ a < σ 26 0 0)) (hxr : -2147483648 ≤ a ∧ a < 2147483648) : GX l yX7_line wsX7_line ({ frames := 7, cells := 1, slots := 6, locals := 111 } : Room) Dg cA ccnt ad oc (cE cA ad σ) [.ref (ad 0 0), .int (zi a), .int (zi place), .int (zi k), .int (zi n)] "java/lang/IndexOutOfBoundsException" := by
  intro sz
  refine gx_ent (cc := cX7_line) (maxL := 6) (ret := (some .int)) (by decide) rfl hI (Nat.le_of_ble_eq_true rfl) ?_
  intro pgm env s₀ m₀ bel mth cod hX hno hW hS hsz ls hl
  subst hsz
  have hC := hX.1
  have hx := hC.1
  have hb := hC.2.1
  have hts := hC.2.2.2.1
  have hl : lv_has ls 6 [(0, .ref (ad 0 0)), (1, .int (zi a)), (2, .int (zi place)), (3, .int (zi k)), (4, .int (zi n))] := hl
  have hA := hv.A
  unfold IvA at hA
  refine lv_aload_n hx hb dX7_line_0 rfl (lv_at hl 0 rfl) ?_
  refine lv_iload_n hx hb dX7_line_1 rfl (lv_at hl 1 rfl) ?_
  exact k_callX (As := [.int (zi a)]) (rest := []) hX hno hl.1 (m_checkList_x hI hfl σ a h1 (by omega) hxr) (cwV 1 hts gX7_line_X7_checkList rfl rfl rfl (by decide +kernel) ⟨Nat.le_of_ble_eq_true rfl, Nat.le_of_ble_eq_true rfl⟩) (rc_KR hC hW) hW hS ⟨Nat.le_of_ble_eq_true rfl, Nat.le_of_ble_eq_true rfl⟩ rfl rfl (Nat.le_of_ble_eq_true rfl) dX7_line_2
set_option maxHeartbeats 4000000 in
set_option maxRecDepth 100000 in
theorem m_line_y {l : Launch} {Dg : va_G} {cA : Nat → ClassId} {ad : Nat → Int → Nat} {oc : Nat → Nat} (hI : WI ccnt ad) (hfl : l.stackTraces = false) {N M : Int} (σ : St) (a place k n : Int) (hv : Inv N M σ) (hl0 : 0 ≤ a ∧ a < σ 26 0 0) (h1 : ¬ (0 ≤ place ∧ place ≤ σ 3 a 0)) (hxr : -2147483648 ≤ place ∧ place < 2147483648) : GX l yX7_line wsX7_line ({ frames := 7, cells := 1, slots := 6, locals := 111 } : Room) Dg cA ccnt ad oc (cE cA ad σ) [.ref (ad 0 0), .int (zi a), .int (zi place), .int (zi k), .int (zi n)] "java/lang/IndexOutOfBoundsException" := by
  intro sz
  refine gx_ent (cc := cX7_line) (maxL := 6) (ret := (some .int)) (by decide) rfl hI (Nat.le_of_ble_eq_true rfl) ?_
  intro pgm env s₀ m₀ bel mth cod hX hno hW hS hsz ls hl
  subst hsz
  have hC := hX.1
  have hx := hC.1
  have hb := hC.2.1
  have hts := hC.2.2.2.1
  have hl : lv_has ls 6 [(0, .ref (ad 0 0)), (1, .int (zi a)), (2, .int (zi place)), (3, .int (zi k)), (4, .int (zi n))] := hl
  have hin_X5 : ∀ w ∈ wsX50, w ∈ wsX7_line := by decide +kernel
  have hin_X7 : ∀ w ∈ wsX70, w ∈ wsX7_line := by decide +kernel
  have hl_11 := hts (.fieldLink RX7 11 "KioskReel" "reels" "[LKioskReel$Reel;") (by decide +kernel)
  have hl_59 := hts (.fieldLink RX7 59 "KioskReel$Reel" "size" "I") (by decide +kernel)
  have hA := hv.A
  unfold IvA at hA
  obtain ⟨r1, r2⟩ := hv.R a (by omega) (by omega)
  refine lv_aload_n hx hb dX7_line_0 rfl (lv_at hl 0 rfl) ?_
  refine lv_iload_n hx hb dX7_line_1 rfl (lv_at hl 1 rfl) ?_
  refine k_callV (As := [.int (zi a)]) (rest := []) hX hl.1 (m_checkList hI σ a hl0 (by omega)) (cwV 1 hts gX7_line_X7_checkList rfl rfl rfl (by decide +kernel) ⟨Nat.le_of_ble_eq_true rfl, Nat.le_of_ble_eq_true rfl⟩) (rc_KR hC hW) hW hS ⟨Nat.zero_le _, Nat.zero_le _⟩ rfl rfl (Nat.le_of_ble_eq_true rfl) dX7_line_2 (fun H locs hW hS _ _ => ?_)
  refine lv_aload_n hx hb dX7_line_5 rfl (lv_at hl 0 rfl) ?_
  refine cg_KR_reels hC hW hin_X7 hl_11 dX7_line_6 ?_
  refine lv_iload_n hx hb dX7_line_9 rfl (lv_at hl 1 rfl) ?_
  refine ca_reels hC hW (by omega) dX7_line_10 ?_
  refine lv_astore (lv' := [(5, .ref (ad 6 a)), (0, .ref (ad 0 0)), (1, .int (zi a)), (2, .int (zi place)), (3, .int (zi k)), (4, .int (zi n))]) hx hb dX7_line_11 hl (by decide) rfl (fun ls hl => ?_)
  refine lv_iload_n hx hb dX7_line_13 rfl (lv_at hl 3 rfl) ?_
  refine k_if_lt (tgt := 26) hC dX7_line_14 (by decide) (by omega) (fun c1 => ?_) (fun c1 => ?_)
  · exact k_throw (rest := []) (text := "no such place") hX rfl hno hl.1 hfl (by decide +kernel) (by decide +kernel) (by decide +kernel) (by decide +kernel) (by decide +kernel) (by decide +kernel) (by decide +kernel) hW hS dX7_line_26 dX7_line_29 dX7_line_30 dX7_line_32 dX7_line_35 ⟨Nat.le_of_ble_eq_true rfl, Nat.le_of_ble_eq_true rfl, Nat.le_of_ble_eq_true rfl, Nat.le_of_ble_eq_true rfl⟩
  · refine lv_iload_n hx hb dX7_line_17 rfl (lv_at hl 3 rfl) ?_
    refine lv_aload hx hb dX7_line_18 (lv_at hl 0 rfl) ?_
    refine cg_Reel_size hC hW hin_X5 hl_59 (by omega) (v := σ 3 a 0) rfl dX7_line_20 ?_
    refine k_icmp_le (tgt := 36) hC dX7_line_23 (by decide) (by omega) (fun c2 => absurd c2 (by omega)) (fun c2 => ?_)
    exact k_throw (rest := []) (text := "no such place") hX rfl hno hl.1 hfl (by decide +kernel) (by decide +kernel) (by decide +kernel) (by decide +kernel) (by decide +kernel) (by decide +kernel) (by decide +kernel) hW hS dX7_line_26 dX7_line_29 dX7_line_30 dX7_line_32 dX7_line_35 ⟨Nat.le_of_ble_eq_true rfl, Nat.le_of_ble_eq_true rfl, Nat.le_of_ble_eq_true rfl, Nat.le_of_ble_eq_true rfl⟩
set_option maxHeartbeats 4000000 in
set_option maxRecDepth 100000 in
theorem m_line_k {l : Launch} {Dg : va_G} {cA : Nat → ClassId} {ad : Nat → Int → Nat} {oc : Nat → Nat} (hI : WI ccnt ad) (hfl : l.stackTraces = false) {N M : Int} (σ : St) (a place k n : Int) (hv : Inv N M σ) (hl0 : 0 ≤ a ∧ a < σ 26 0 0) (hpl : 0 ≤ place ∧ place ≤ σ 3 a 0) (hkc : 0 ≤ k ∧ k < 65536) (hkm : mostN k = -1) : GX l yX7_line wsX7_line ({ frames := 7, cells := 1, slots := 6, locals := 111 } : Room) Dg cA ccnt ad oc (cE cA ad σ) [.ref (ad 0 0), .int (zi a), .int (zi place), .int (zi k), .int (zi n)] "java/lang/IllegalArgumentException" := by
  intro sz
  refine gx_ent (cc := cX7_line) (maxL := 6) (ret := (some .int)) (by decide) rfl hI (Nat.le_of_ble_eq_true rfl) ?_
  intro pgm env s₀ m₀ bel mth cod hX hno hW hS hsz ls hl
  subst hsz
  have hC := hX.1
  have hx := hC.1
  have hb := hC.2.1
  have hts := hC.2.2.2.1
  have hl : lv_has ls 6 [(0, .ref (ad 0 0)), (1, .int (zi a)), (2, .int (zi place)), (3, .int (zi k)), (4, .int (zi n))] := hl
  have hin_X5 : ∀ w ∈ wsX50, w ∈ wsX7_line := by decide +kernel
  have hin_X7 : ∀ w ∈ wsX70, w ∈ wsX7_line := by decide +kernel
  have hl_11 := hts (.fieldLink RX7 11 "KioskReel" "reels" "[LKioskReel$Reel;") (by decide +kernel)
  have hl_59 := hts (.fieldLink RX7 59 "KioskReel$Reel" "size" "I") (by decide +kernel)
  have hA := hv.A
  unfold IvA at hA
  obtain ⟨r1, r2⟩ := hv.R a (by omega) (by omega)
  refine lv_aload_n hx hb dX7_line_0 rfl (lv_at hl 0 rfl) ?_
  refine lv_iload_n hx hb dX7_line_1 rfl (lv_at hl 1 rfl) ?_
  refine k_callV (As := [.int (zi a)]) (rest := []) hX hl.1 (m_checkList hI σ a hl0 (by omega)) (cwV 1 hts gX7_line_X7_checkList rfl rfl rfl (by decide +kernel) ⟨Nat.le_of_ble_eq_true rfl, Nat.le_of_ble_eq_true rfl⟩) (rc_KR hC hW) hW hS ⟨Nat.zero_le _, Nat.zero_le _⟩ rfl rfl (Nat.le_of_ble_eq_true rfl) dX7_line_2 (fun H locs hW hS _ _ => ?_)
  refine lv_aload_n hx hb dX7_line_5 rfl (lv_at hl 0 rfl) ?_
  refine cg_KR_reels hC hW hin_X7 hl_11 dX7_line_6 ?_
  refine lv_iload_n hx hb dX7_line_9 rfl (lv_at hl 1 rfl) ?_
  refine ca_reels hC hW (by omega) dX7_line_10 ?_
  refine lv_astore (lv' := [(5, .ref (ad 6 a)), (0, .ref (ad 0 0)), (1, .int (zi a)), (2, .int (zi place)), (3, .int (zi k)), (4, .int (zi n))]) hx hb dX7_line_11 hl (by decide) rfl (fun ls hl => ?_)
  refine lv_iload_n hx hb dX7_line_13 rfl (lv_at hl 3 rfl) ?_
  refine k_if_lt (tgt := 26) hC dX7_line_14 (by decide) (by omega) (fun c1 => absurd c1 (by omega)) (fun c1 => ?_)
  refine lv_iload_n hx hb dX7_line_17 rfl (lv_at hl 3 rfl) ?_
  refine lv_aload hx hb dX7_line_18 (lv_at hl 0 rfl) ?_
  refine cg_Reel_size hC hW hin_X5 hl_59 (by omega) (v := σ 3 a 0) rfl dX7_line_20 ?_
  refine k_icmp_le (tgt := 36) hC dX7_line_23 (by decide) (by omega) (fun c2 => ?_) (fun c2 => absurd c2 (by omega))
  refine lv_iload_n hx hb dX7_line_36 rfl (lv_at hl 4 rfl) ?_
  exact k_callSX (As := [.int (zi k)]) (rest := []) hX hno hl.1 (m_checkKind_x hI hfl σ k hkc hkm) (cwS 1 hts gX7_line_X7_checkKind rfl rfl rfl (by decide +kernel) ⟨Nat.le_of_ble_eq_true rfl, Nat.le_of_ble_eq_true rfl⟩) hW hS ⟨Nat.le_of_ble_eq_true rfl, Nat.le_of_ble_eq_true rfl⟩ rfl rfl (Nat.le_of_ble_eq_true rfl) dX7_line_37
set_option maxHeartbeats 4000000 in
set_option maxRecDepth 100000 in
theorem m_line_n {l : Launch} {Dg : va_G} {cA : Nat → ClassId} {ad : Nat → Int → Nat} {oc : Nat → Nat} (hI : WI ccnt ad) (hfl : l.stackTraces = false) {N M : Int} (σ : St) (a place k n : Int) (hv : Inv N M σ) (hl0 : 0 ≤ a ∧ a < σ 26 0 0) (hpl : 0 ≤ place ∧ place ≤ σ 3 a 0) (hkc : 0 ≤ k ∧ k < 65536) (hkm : mostN k ≠ -1) (hnn : ¬ (leastN k ≤ n ∧ n ≤ mostN k)) (hxr : -2147483648 ≤ n ∧ n < 2147483648) : GX l yX7_line wsX7_line ({ frames := 7, cells := 1, slots := 6, locals := 111 } : Room) Dg cA ccnt ad oc (cE cA ad σ) [.ref (ad 0 0), .int (zi a), .int (zi place), .int (zi k), .int (zi n)] "java/lang/IllegalArgumentException" := by
  intro sz
  refine gx_ent (cc := cX7_line) (maxL := 6) (ret := (some .int)) (by decide) rfl hI (Nat.le_of_ble_eq_true rfl) ?_
  intro pgm env s₀ m₀ bel mth cod hX hno hW hS hsz ls hl
  subst hsz
  have hC := hX.1
  have hx := hC.1
  have hb := hC.2.1
  have hts := hC.2.2.2.1
  have hl : lv_has ls 6 [(0, .ref (ad 0 0)), (1, .int (zi a)), (2, .int (zi place)), (3, .int (zi k)), (4, .int (zi n))] := hl
  have hin_X5 : ∀ w ∈ wsX50, w ∈ wsX7_line := by decide +kernel
  have hin_X7 : ∀ w ∈ wsX70, w ∈ wsX7_line := by decide +kernel
  have hl_11 := hts (.fieldLink RX7 11 "KioskReel" "reels" "[LKioskReel$Reel;") (by decide +kernel)
  have hl_59 := hts (.fieldLink RX7 59 "KioskReel$Reel" "size" "I") (by decide +kernel)
  have hA := hv.A
  unfold IvA at hA
  obtain ⟨r1, r2⟩ := hv.R a (by omega) (by omega)
  have mr := mostN_rng k
  have lr := leastN_rng k
  refine lv_aload_n hx hb dX7_line_0 rfl (lv_at hl 0 rfl) ?_
  refine lv_iload_n hx hb dX7_line_1 rfl (lv_at hl 1 rfl) ?_
  refine k_callV (As := [.int (zi a)]) (rest := []) hX hl.1 (m_checkList hI σ a hl0 (by omega)) (cwV 1 hts gX7_line_X7_checkList rfl rfl rfl (by decide +kernel) ⟨Nat.le_of_ble_eq_true rfl, Nat.le_of_ble_eq_true rfl⟩) (rc_KR hC hW) hW hS ⟨Nat.zero_le _, Nat.zero_le _⟩ rfl rfl (Nat.le_of_ble_eq_true rfl) dX7_line_2 (fun H locs hW hS _ _ => ?_)
  refine lv_aload_n hx hb dX7_line_5 rfl (lv_at hl 0 rfl) ?_
  refine cg_KR_reels hC hW hin_X7 hl_11 dX7_line_6 ?_
  refine lv_iload_n hx hb dX7_line_9 rfl (lv_at hl 1 rfl) ?_
  refine ca_reels hC hW (by omega) dX7_line_10 ?_
  refine lv_astore (lv' := [(5, .ref (ad 6 a)), (0, .ref (ad 0 0)), (1, .int (zi a)), (2, .int (zi place)), (3, .int (zi k)), (4, .int (zi n))]) hx hb dX7_line_11 hl (by decide) rfl (fun ls hl => ?_)
  refine lv_iload_n hx hb dX7_line_13 rfl (lv_at hl 3 rfl) ?_
  refine k_if_lt (tgt := 26) hC dX7_line_14 (by decide) (by omega) (fun c1 => absurd c1 (by omega)) (fun c1 => ?_)
  refine lv_iload_n hx hb dX7_line_17 rfl (lv_at hl 3 rfl) ?_
  refine lv_aload hx hb dX7_line_18 (lv_at hl 0 rfl) ?_
  refine cg_Reel_size hC hW hin_X5 hl_59 (by omega) (v := σ 3 a 0) rfl dX7_line_20 ?_
  refine k_icmp_le (tgt := 36) hC dX7_line_23 (by decide) (by omega) (fun c2 => ?_) (fun c2 => absurd c2 (by omega))
  refine lv_iload_n hx hb dX7_line_36 rfl (lv_at hl 4 rfl) ?_
  refine k_callSV (As := [.int (zi k)]) (rest := []) hX hl.1 (m_checkKind hI σ k hkc hkm) (cwS 1 hts gX7_line_X7_checkKind rfl rfl rfl (by decide +kernel) ⟨Nat.le_of_ble_eq_true rfl, Nat.le_of_ble_eq_true rfl⟩) hW hS ⟨Nat.zero_le _, Nat.zero_le _⟩ rfl rfl (Nat.le_of_ble_eq_true rfl) dX7_line_37 (fun H locs hW hS _ _ => ?_)
  refine lv_iload hx hb dX7_line_40 (lv_at hl 5 rfl) ?_
  refine lv_iload_n hx hb dX7_line_42 rfl (lv_at hl 4 rfl) ?_
  refine k_callSI (As := [.int (zi k)]) (rest := [.int (zi n)]) hX hl.1 (m_leastNumber hI σ k hkc) (cwS 1 hts gX7_line_X7_leastNumber rfl rfl rfl (by decide +kernel) ⟨Nat.le_of_ble_eq_true rfl, Nat.le_of_ble_eq_true rfl⟩) hW hS ⟨Nat.zero_le _, Nat.zero_le _⟩ rfl rfl (Nat.le_of_ble_eq_true rfl) dX7_line_43 (fun H locs hW hS _ _ => ?_)
  refine k_icmp_lt (tgt := 58) hC dX7_line_46 (by decide) (by omega) (fun c3 => ?_) (fun c3 => ?_)
  · exact k_throw (rest := []) (text := "the number is out of its range") hX rfl hno hl.1 hfl (by decide +kernel) (by decide +kernel) (by decide +kernel) (by decide +kernel) (by decide +kernel) (by decide +kernel) (by decide +kernel) hW hS dX7_line_58 dX7_line_61 dX7_line_62 dX7_line_64 dX7_line_67 ⟨Nat.le_of_ble_eq_true rfl, Nat.le_of_ble_eq_true rfl, Nat.le_of_ble_eq_true rfl, Nat.le_of_ble_eq_true rfl⟩
  · refine lv_iload hx hb dX7_line_49 (lv_at hl 5 rfl) ?_
    refine lv_iload_n hx hb dX7_line_51 rfl (lv_at hl 4 rfl) ?_
    refine k_callSI (As := [.int (zi k)]) (rest := [.int (zi n)]) hX hl.1 (m_mostNumber hI σ k hkc) (cwS 1 hts gX7_line_X7_mostNumber rfl rfl rfl (by decide +kernel) ⟨Nat.le_of_ble_eq_true rfl, Nat.le_of_ble_eq_true rfl⟩) hW hS ⟨Nat.zero_le _, Nat.zero_le _⟩ rfl rfl (Nat.le_of_ble_eq_true rfl) dX7_line_52 (fun H locs hW hS _ _ => ?_)
    refine k_icmp_le (tgt := 68) hC dX7_line_55 (by decide) (by omega) (fun c4 => absurd c4 (by omega)) (fun c4 => ?_)
    exact k_throw (rest := []) (text := "the number is out of its range") hX rfl hno hl.1 hfl (by decide +kernel) (by decide +kernel) (by decide +kernel) (by decide +kernel) (by decide +kernel) (by decide +kernel) (by decide +kernel) hW hS dX7_line_58 dX7_line_61 dX7_line_62 dX7_line_64 dX7_line_67 ⟨Nat.le_of_ble_eq_true rfl, Nat.le_of_ble_eq_true rfl, Nat.le_of_ble_eq_true rfl, Nat.le_of_ble_eq_true rfl⟩
set_option maxHeartbeats 4000000 in
set_option maxRecDepth 100000 in
theorem m_line_s {l : Launch} {Dg : va_G} {cA : Nat → ClassId} {ad : Nat → Int → Nat} {oc : Nat → Nat} (hI : WI ccnt ad) (hfl : l.stackTraces = false) {N M : Int} (σ : St) (a place k n : Int) (hv : Inv N M σ) (hl0 : 0 ≤ a ∧ a < σ 26 0 0) (hpl : 0 ≤ place ∧ place ≤ σ 3 a 0) (hkc : 0 ≤ k ∧ k < 65536) (hkm : mostN k ≠ -1) (hnn : leastN k ≤ n ∧ n ≤ mostN k) (h20 : σ 3 a 0 = 20) : GX l yX7_line wsX7_line ({ frames := 7, cells := 1, slots := 6, locals := 111 } : Room) Dg cA ccnt ad oc (cE cA ad σ) [.ref (ad 0 0), .int (zi a), .int (zi place), .int (zi k), .int (zi n)] "java/lang/IllegalStateException" := by
  intro sz
  refine gx_ent (cc := cX7_line) (maxL := 6) (ret := (some .int)) (by decide) rfl hI (Nat.le_of_ble_eq_true rfl) ?_
  intro pgm env s₀ m₀ bel mth cod hX hno hW hS hsz ls hl
  subst hsz
  have hC := hX.1
  have hx := hC.1
  have hb := hC.2.1
  have hts := hC.2.2.2.1
  have hl : lv_has ls 6 [(0, .ref (ad 0 0)), (1, .int (zi a)), (2, .int (zi place)), (3, .int (zi k)), (4, .int (zi n))] := hl
  have hin_X5 : ∀ w ∈ wsX50, w ∈ wsX7_line := by decide +kernel
  have hin_X7 : ∀ w ∈ wsX70, w ∈ wsX7_line := by decide +kernel
  have hl_11 := hts (.fieldLink RX7 11 "KioskReel" "reels" "[LKioskReel$Reel;") (by decide +kernel)
  have hl_59 := hts (.fieldLink RX7 59 "KioskReel$Reel" "size" "I") (by decide +kernel)
  have hA := hv.A
  unfold IvA at hA
  obtain ⟨r1, r2⟩ := hv.R a (by omega) (by omega)
  have mr := mostN_rng k
  have lr := leastN_rng k
  refine lv_aload_n hx hb dX7_line_0 rfl (lv_at hl 0 rfl) ?_
  refine lv_iload_n hx hb dX7_line_1 rfl (lv_at hl 1 rfl) ?_
  refine k_callV (As := [.int (zi a)]) (rest := []) hX hl.1 (m_checkList hI σ a hl0 (by omega)) (cwV 1 hts gX7_line_X7_checkList rfl rfl rfl (by decide +kernel) ⟨Nat.le_of_ble_eq_true rfl, Nat.le_of_ble_eq_true rfl⟩) (rc_KR hC hW) hW hS ⟨Nat.zero_le _, Nat.zero_le _⟩ rfl rfl (Nat.le_of_ble_eq_true rfl) dX7_line_2 (fun H locs hW hS _ _ => ?_)
  refine lv_aload_n hx hb dX7_line_5 rfl (lv_at hl 0 rfl) ?_
  refine cg_KR_reels hC hW hin_X7 hl_11 dX7_line_6 ?_
  refine lv_iload_n hx hb dX7_line_9 rfl (lv_at hl 1 rfl) ?_
  refine ca_reels hC hW (by omega) dX7_line_10 ?_
  refine lv_astore (lv' := [(5, .ref (ad 6 a)), (0, .ref (ad 0 0)), (1, .int (zi a)), (2, .int (zi place)), (3, .int (zi k)), (4, .int (zi n))]) hx hb dX7_line_11 hl (by decide) rfl (fun ls hl => ?_)
  refine lv_iload_n hx hb dX7_line_13 rfl (lv_at hl 3 rfl) ?_
  refine k_if_lt (tgt := 26) hC dX7_line_14 (by decide) (by omega) (fun c1 => absurd c1 (by omega)) (fun c1 => ?_)
  refine lv_iload_n hx hb dX7_line_17 rfl (lv_at hl 3 rfl) ?_
  refine lv_aload hx hb dX7_line_18 (lv_at hl 0 rfl) ?_
  refine cg_Reel_size hC hW hin_X5 hl_59 (by omega) (v := σ 3 a 0) rfl dX7_line_20 ?_
  refine k_icmp_le (tgt := 36) hC dX7_line_23 (by decide) (by omega) (fun c2 => ?_) (fun c2 => absurd c2 (by omega))
  refine lv_iload_n hx hb dX7_line_36 rfl (lv_at hl 4 rfl) ?_
  refine k_callSV (As := [.int (zi k)]) (rest := []) hX hl.1 (m_checkKind hI σ k hkc hkm) (cwS 1 hts gX7_line_X7_checkKind rfl rfl rfl (by decide +kernel) ⟨Nat.le_of_ble_eq_true rfl, Nat.le_of_ble_eq_true rfl⟩) hW hS ⟨Nat.zero_le _, Nat.zero_le _⟩ rfl rfl (Nat.le_of_ble_eq_true rfl) dX7_line_37 (fun H locs hW hS _ _ => ?_)
  refine lv_iload hx hb dX7_line_40 (lv_at hl 5 rfl) ?_
  refine lv_iload_n hx hb dX7_line_42 rfl (lv_at hl 4 rfl) ?_
  refine k_callSI (As := [.int (zi k)]) (rest := [.int (zi n)]) hX hl.1 (m_leastNumber hI σ k hkc) (cwS 1 hts gX7_line_X7_leastNumber rfl rfl rfl (by decide +kernel) ⟨Nat.le_of_ble_eq_true rfl, Nat.le_of_ble_eq_true rfl⟩) hW hS ⟨Nat.zero_le _, Nat.zero_le _⟩ rfl rfl (Nat.le_of_ble_eq_true rfl) dX7_line_43 (fun H locs hW hS _ _ => ?_)
  refine k_icmp_lt (tgt := 58) hC dX7_line_46 (by decide) (by omega) (fun c3 => absurd c3 (by omega)) (fun c3 => ?_)
  refine lv_iload hx hb dX7_line_49 (lv_at hl 5 rfl) ?_
  refine lv_iload_n hx hb dX7_line_51 rfl (lv_at hl 4 rfl) ?_
  refine k_callSI (As := [.int (zi k)]) (rest := [.int (zi n)]) hX hl.1 (m_mostNumber hI σ k hkc) (cwS 1 hts gX7_line_X7_mostNumber rfl rfl rfl (by decide +kernel) ⟨Nat.le_of_ble_eq_true rfl, Nat.le_of_ble_eq_true rfl⟩) hW hS ⟨Nat.zero_le _, Nat.zero_le _⟩ rfl rfl (Nat.le_of_ble_eq_true rfl) dX7_line_52 (fun H locs hW hS _ _ => ?_)
  refine k_icmp_le (tgt := 68) hC dX7_line_55 (by decide) (by omega) (fun c4 => ?_) (fun c4 => absurd c4 (by omega))
  refine lv_aload hx hb dX7_line_68 (lv_at hl 0 rfl) ?_
  refine cg_Reel_size hC hW hin_X5 hl_59 (by omega) (v := σ 3 a 0) rfl dX7_line_70 ?_
  refine k_bipush hC dX7_line_73 (by decide) ?_
  refine k_icmp_lt (tgt := 88) hC dX7_line_75 (by decide) (by omega) (fun c5 => absurd c5 (by omega)) (fun c5 => ?_)
  exact k_throw (rest := []) (text := "the list has 20 lines") hX rfl hno hl.1 hfl (by decide +kernel) (by decide +kernel) (by decide +kernel) (by decide +kernel) (by decide +kernel) (by decide +kernel) (by decide +kernel) hW hS dX7_line_78 dX7_line_81 dX7_line_82 dX7_line_84 dX7_line_87 ⟨Nat.le_of_ble_eq_true rfl, Nat.le_of_ble_eq_true rfl, Nat.le_of_ble_eq_true rfl, Nat.le_of_ble_eq_true rfl⟩
set_option maxHeartbeats 4000000 in
set_option maxRecDepth 100000 in
theorem m_cut {l : Launch} {Dg : va_G} {cA : Nat → ClassId} {ad : Nat → Int → Nat} {oc : Nat → Nat} (hI : WI ccnt ad) {N M : Int} (σ : St) (a place : Int) (hv : Inv N M σ) (hl0 : 0 ≤ a ∧ a < σ 26 0 0) (hpl : 0 ≤ place ∧ place < σ 3 a 0) : GI l yX7_cut wsX7_cut ({ frames := 7, cells := 0, slots := 0, locals := 111 } : Room) Dg cA ccnt ad oc (cE cA ad σ) [.ref (ad 0 0), .int (zi a), .int (zi place)] (σ 1 a place) (cE cA ad (fRem σ a place)) := by
  intro sz
  refine g_ent (cc := cX7_cut) (maxL := 5) (ret := (some .char)) (by decide) rfl hI (Nat.le_of_ble_eq_true rfl) ?_
  intro pgm env s₀ m₀ bel mth cod hX hW hS hsz ls hl
  subst hsz
  have hC := hX.1
  have hx := hC.1
  have hb := hC.2.1
  have hts := hC.2.2.2.1
  have hl : lv_has ls 5 [(0, .ref (ad 0 0)), (1, .int (zi a)), (2, .int (zi place))] := hl
  have hin_X5 : ∀ w ∈ wsX50, w ∈ wsX7_cut := by decide +kernel
  have hin_X7 : ∀ w ∈ wsX70, w ∈ wsX7_cut := by decide +kernel
  have hl_11 := hts (.fieldLink RX7 11 "KioskReel" "reels" "[LKioskReel$Reel;") (by decide +kernel)
  have hl_59 := hts (.fieldLink RX7 59 "KioskReel$Reel" "size" "I") (by decide +kernel)
  have hl_89 := hts (.fieldLink RX7 89 "KioskReel$Reel" "kinds" "[C") (by decide +kernel)
  have hA := hv.A
  unfold IvA at hA
  obtain ⟨r1, r2⟩ := hv.R a (by omega) (by omega)
  have r3 := (r2 place (by omega) (by omega)).1
  refine lv_aload_n hx hb dX7_cut_0 rfl (lv_at hl 0 rfl) ?_
  refine lv_iload_n hx hb dX7_cut_1 rfl (lv_at hl 1 rfl) ?_
  refine k_callV (As := [.int (zi a)]) (rest := []) hX hl.1 (m_checkList hI σ a hl0 (by omega)) (cwV 1 hts gX7_cut_X7_checkList rfl rfl rfl (by decide +kernel) ⟨Nat.le_of_ble_eq_true rfl, Nat.le_of_ble_eq_true rfl⟩) (rc_KR hC hW) hW hS ⟨Nat.zero_le _, Nat.zero_le _⟩ rfl rfl (Nat.le_of_ble_eq_true rfl) dX7_cut_2 (fun H locs hW hS _ _ => ?_)
  refine lv_aload_n hx hb dX7_cut_5 rfl (lv_at hl 0 rfl) ?_
  refine cg_KR_reels hC hW hin_X7 hl_11 dX7_cut_6 ?_
  refine lv_iload_n hx hb dX7_cut_9 rfl (lv_at hl 1 rfl) ?_
  refine ca_reels hC hW (by omega) dX7_cut_10 ?_
  refine lv_astore_n (lv' := [(3, .ref (ad 6 a)), (0, .ref (ad 0 0)), (1, .int (zi a)), (2, .int (zi place))]) hx hb dX7_cut_11 rfl hl (by decide) rfl (fun ls hl => ?_)
  refine lv_iload_n hx hb dX7_cut_12 rfl (lv_at hl 3 rfl) ?_
  refine k_if_lt (tgt := 24) hC dX7_cut_13 (by decide) (by omega) (fun c1 => absurd c1 (by omega)) (fun c1 => ?_)
  refine lv_iload_n hx hb dX7_cut_16 rfl (lv_at hl 3 rfl) ?_
  refine lv_aload_n hx hb dX7_cut_17 rfl (lv_at hl 0 rfl) ?_
  refine cg_Reel_size hC hW hin_X5 hl_59 (by omega) (v := σ 3 a 0) rfl dX7_cut_18 ?_
  refine k_icmp_lt (tgt := 34) hC dX7_cut_21 (by decide) (by omega) (fun c2 => ?_) (fun c2 => absurd c2 (by omega))
  refine lv_aload_n hx hb dX7_cut_34 rfl (lv_at hl 0 rfl) ?_
  refine cg_Reel_kinds hC hW hin_X5 hl_89 (by omega) dX7_cut_35 ?_
  refine lv_iload_n hx hb dX7_cut_38 rfl (lv_at hl 3 rfl) ?_
  refine ca_kinds hC hW (by omega) (by omega) (v := σ 1 a place) rfl dX7_cut_39 ?_
  refine lv_istore (lv' := [(4, .int (zi (σ 1 a place))), (3, .ref (ad 6 a)), (0, .ref (ad 0 0)), (1, .int (zi a)), (2, .int (zi place))]) hx hb dX7_cut_40 hl (by decide) rfl (fun ls hl => ?_)
  refine lv_aload_n hx hb dX7_cut_42 rfl (lv_at hl 1 rfl) ?_
  refine lv_iload_n hx hb dX7_cut_43 rfl (lv_at hl 4 rfl) ?_
  refine k_callV (As := [.int (zi place)]) (rest := []) hX hl.1 (m_removeAt hI σ a place (by omega) hpl (by omega) (fun j x y => (r2 j x y).1)) (cwV 1 hts gX7_cut_X5_removeAt rfl rfl rfl (by decide +kernel) ⟨Nat.le_of_ble_eq_true rfl, Nat.le_of_ble_eq_true rfl⟩) (rc_Reel hC hW (by omega)) hW hS ⟨Nat.zero_le _, Nat.zero_le _⟩ rfl rfl (Nat.le_of_ble_eq_true rfl) dX7_cut_44 (fun H locs hW hS _ _ => ?_)
  obtain ⟨σ1, hσ1⟩ : ∃ z, z = fRem σ a place := ⟨_, rfl⟩
  rw [← hσ1] at hW
  refine lv_iload hx hb dX7_cut_47 (lv_at hl 0 rfl) ?_
  have hW : WP Dg ccnt ad (cE cA ad (fRem σ a place)) _ := (sw hW (by rw [hσ1]))
  exact k_cret hX (by omega) rfl hW hS dX7_cut_49
set_option maxHeartbeats 4000000 in
set_option maxRecDepth 100000 in
theorem m_cut_x {l : Launch} {Dg : va_G} {cA : Nat → ClassId} {ad : Nat → Int → Nat} {oc : Nat → Nat} (hI : WI ccnt ad) (hfl : l.stackTraces = false) {N M : Int} (σ : St) (a place : Int) (hv : Inv N M σ) (h1 : ¬ (0 ≤ a ∧ a < σ 26 0 0)) (hxr : -2147483648 ≤ a ∧ a < 2147483648) : GX l yX7_cut wsX7_cut ({ frames := 7, cells := 1, slots := 6, locals := 111 } : Room) Dg cA ccnt ad oc (cE cA ad σ) [.ref (ad 0 0), .int (zi a), .int (zi place)] "java/lang/IndexOutOfBoundsException" := by
  intro sz
  refine gx_ent (cc := cX7_cut) (maxL := 5) (ret := (some .char)) (by decide) rfl hI (Nat.le_of_ble_eq_true rfl) ?_
  intro pgm env s₀ m₀ bel mth cod hX hno hW hS hsz ls hl
  subst hsz
  have hC := hX.1
  have hx := hC.1
  have hb := hC.2.1
  have hts := hC.2.2.2.1
  have hl : lv_has ls 5 [(0, .ref (ad 0 0)), (1, .int (zi a)), (2, .int (zi place))] := hl
  have hA := hv.A
  unfold IvA at hA
  refine lv_aload_n hx hb dX7_cut_0 rfl (lv_at hl 0 rfl) ?_
  refine lv_iload_n hx hb dX7_cut_1 rfl (lv_at hl 1 rfl) ?_
  exact k_callX (As := [.int (zi a)]) (rest := []) hX hno hl.1 (m_checkList_x hI hfl σ a h1 (by omega) hxr) (cwV 1 hts gX7_cut_X7_checkList rfl rfl rfl (by decide +kernel) ⟨Nat.le_of_ble_eq_true rfl, Nat.le_of_ble_eq_true rfl⟩) (rc_KR hC hW) hW hS ⟨Nat.le_of_ble_eq_true rfl, Nat.le_of_ble_eq_true rfl⟩ rfl rfl (Nat.le_of_ble_eq_true rfl) dX7_cut_2
set_option maxHeartbeats 4000000 in
set_option maxRecDepth 100000 in
theorem m_cut_y {l : Launch} {Dg : va_G} {cA : Nat → ClassId} {ad : Nat → Int → Nat} {oc : Nat → Nat} (hI : WI ccnt ad) (hfl : l.stackTraces = false) {N M : Int} (σ : St) (a place : Int) (hv : Inv N M σ) (hl0 : 0 ≤ a ∧ a < σ 26 0 0) (h1 : ¬ (0 ≤ place ∧ place < σ 3 a 0)) (hxr : -2147483648 ≤ place ∧ place < 2147483648) : GX l yX7_cut wsX7_cut ({ frames := 7, cells := 1, slots := 6, locals := 111 } : Room) Dg cA ccnt ad oc (cE cA ad σ) [.ref (ad 0 0), .int (zi a), .int (zi place)] "java/lang/IndexOutOfBoundsException" := by
  intro sz
  refine gx_ent (cc := cX7_cut) (maxL := 5) (ret := (some .char)) (by decide) rfl hI (Nat.le_of_ble_eq_true rfl) ?_
  intro pgm env s₀ m₀ bel mth cod hX hno hW hS hsz ls hl
  subst hsz
  have hC := hX.1
  have hx := hC.1
  have hb := hC.2.1
  have hts := hC.2.2.2.1
  have hl : lv_has ls 5 [(0, .ref (ad 0 0)), (1, .int (zi a)), (2, .int (zi place))] := hl
  have hin_X5 : ∀ w ∈ wsX50, w ∈ wsX7_cut := by decide +kernel
  have hin_X7 : ∀ w ∈ wsX70, w ∈ wsX7_cut := by decide +kernel
  have hl_11 := hts (.fieldLink RX7 11 "KioskReel" "reels" "[LKioskReel$Reel;") (by decide +kernel)
  have hl_59 := hts (.fieldLink RX7 59 "KioskReel$Reel" "size" "I") (by decide +kernel)
  have hA := hv.A
  unfold IvA at hA
  obtain ⟨r1, r2⟩ := hv.R a (by omega) (by omega)
  refine lv_aload_n hx hb dX7_cut_0 rfl (lv_at hl 0 rfl) ?_
  refine lv_iload_n hx hb dX7_cut_1 rfl (lv_at hl 1 rfl) ?_
  refine k_callV (As := [.int (zi a)]) (rest := []) hX hl.1 (m_checkList hI σ a hl0 (by omega)) (cwV 1 hts gX7_cut_X7_checkList rfl rfl rfl (by decide +kernel) ⟨Nat.le_of_ble_eq_true rfl, Nat.le_of_ble_eq_true rfl⟩) (rc_KR hC hW) hW hS ⟨Nat.zero_le _, Nat.zero_le _⟩ rfl rfl (Nat.le_of_ble_eq_true rfl) dX7_cut_2 (fun H locs hW hS _ _ => ?_)
  refine lv_aload_n hx hb dX7_cut_5 rfl (lv_at hl 0 rfl) ?_
  refine cg_KR_reels hC hW hin_X7 hl_11 dX7_cut_6 ?_
  refine lv_iload_n hx hb dX7_cut_9 rfl (lv_at hl 1 rfl) ?_
  refine ca_reels hC hW (by omega) dX7_cut_10 ?_
  refine lv_astore_n (lv' := [(3, .ref (ad 6 a)), (0, .ref (ad 0 0)), (1, .int (zi a)), (2, .int (zi place))]) hx hb dX7_cut_11 rfl hl (by decide) rfl (fun ls hl => ?_)
  refine lv_iload_n hx hb dX7_cut_12 rfl (lv_at hl 3 rfl) ?_
  refine k_if_lt (tgt := 24) hC dX7_cut_13 (by decide) (by omega) (fun c1 => ?_) (fun c1 => ?_)
  · exact k_throw (rest := []) (text := "no such place") hX rfl hno hl.1 hfl (by decide +kernel) (by decide +kernel) (by decide +kernel) (by decide +kernel) (by decide +kernel) (by decide +kernel) (by decide +kernel) hW hS dX7_cut_24 dX7_cut_27 dX7_cut_28 dX7_cut_30 dX7_cut_33 ⟨Nat.le_of_ble_eq_true rfl, Nat.le_of_ble_eq_true rfl, Nat.le_of_ble_eq_true rfl, Nat.le_of_ble_eq_true rfl⟩
  · refine lv_iload_n hx hb dX7_cut_16 rfl (lv_at hl 3 rfl) ?_
    refine lv_aload_n hx hb dX7_cut_17 rfl (lv_at hl 0 rfl) ?_
    refine cg_Reel_size hC hW hin_X5 hl_59 (by omega) (v := σ 3 a 0) rfl dX7_cut_18 ?_
    refine k_icmp_lt (tgt := 34) hC dX7_cut_21 (by decide) (by omega) (fun c2 => absurd c2 (by omega)) (fun c2 => ?_)
    exact k_throw (rest := []) (text := "no such place") hX rfl hno hl.1 hfl (by decide +kernel) (by decide +kernel) (by decide +kernel) (by decide +kernel) (by decide +kernel) (by decide +kernel) (by decide +kernel) hW hS dX7_cut_24 dX7_cut_27 dX7_cut_28 dX7_cut_30 dX7_cut_33 ⟨Nat.le_of_ble_eq_true rfl, Nat.le_of_ble_eq_true rfl, Nat.le_of_ble_eq_true rfl, Nat.le_of_ble_eq_true rfl⟩
set_option maxHeartbeats 4000000 in
set_option maxRecDepth 100000 in
theorem m_lines {l : Launch} {Dg : va_G} {cA : Nat → ClassId} {ad : Nat → Int → Nat} {oc : Nat → Nat} (hI : WI ccnt ad) {N M : Int} (σ : St) (a k : Int) (hv : Inv N M σ) (hl0 : 0 ≤ a ∧ a < σ 26 0 0) (hkc : 0 ≤ k ∧ k < 65536) (hkm : mostN k ≠ -1) : GI l yX7_lines wsX7_lines ({ frames := 7, cells := 0, slots := 0, locals := 111 } : Room) Dg cA ccnt ad oc (cE cA ad σ) [.ref (ad 0 0), .int (zi a), .int (zi k)] (cN (fun j => decide (σ 1 a j = k)) (σ 3 a 0)) (cE cA ad σ) := by
  intro sz
  refine g_ent (cc := cX7_lines) (maxL := 3) (ret := (some .int)) (by decide) rfl hI (Nat.le_of_ble_eq_true rfl) ?_
  intro pgm env s₀ m₀ bel mth cod hX hW hS hsz ls hl
  subst hsz
  have hC := hX.1
  have hx := hC.1
  have hb := hC.2.1
  have hts := hC.2.2.2.1
  have hl : lv_has ls 3 [(0, .ref (ad 0 0)), (1, .int (zi a)), (2, .int (zi k))] := hl
  have hin_X7 : ∀ w ∈ wsX70, w ∈ wsX7_lines := by decide +kernel
  have hl_11 := hts (.fieldLink RX7 11 "KioskReel" "reels" "[LKioskReel$Reel;") (by decide +kernel)
  have hA := hv.A
  unfold IvA at hA
  obtain ⟨r1, r2⟩ := hv.R a (by omega) (by omega)
  refine lv_aload_n hx hb dX7_lines_0 rfl (lv_at hl 0 rfl) ?_
  refine lv_iload_n hx hb dX7_lines_1 rfl (lv_at hl 1 rfl) ?_
  refine k_callV (As := [.int (zi a)]) (rest := []) hX hl.1 (m_checkList hI σ a hl0 (by omega)) (cwV 1 hts gX7_lines_X7_checkList rfl rfl rfl (by decide +kernel) ⟨Nat.le_of_ble_eq_true rfl, Nat.le_of_ble_eq_true rfl⟩) (rc_KR hC hW) hW hS ⟨Nat.zero_le _, Nat.zero_le _⟩ rfl rfl (Nat.le_of_ble_eq_true rfl) dX7_lines_2 (fun H locs hW hS _ _ => ?_)
  refine lv_iload_n hx hb dX7_lines_5 rfl (lv_at hl 2 rfl) ?_
  refine k_callSV (As := [.int (zi k)]) (rest := []) hX hl.1 (m_checkKind hI σ k hkc hkm) (cwS 1 hts gX7_lines_X7_checkKind rfl rfl rfl (by decide +kernel) ⟨Nat.le_of_ble_eq_true rfl, Nat.le_of_ble_eq_true rfl⟩) hW hS ⟨Nat.zero_le _, Nat.zero_le _⟩ rfl rfl (Nat.le_of_ble_eq_true rfl) dX7_lines_6 (fun H locs hW hS _ _ => ?_)
  refine lv_aload_n hx hb dX7_lines_9 rfl (lv_at hl 0 rfl) ?_
  refine cg_KR_reels hC hW hin_X7 hl_11 dX7_lines_10 ?_
  refine lv_iload_n hx hb dX7_lines_13 rfl (lv_at hl 1 rfl) ?_
  refine ca_reels hC hW (by omega) dX7_lines_14 ?_
  refine lv_iload_n hx hb dX7_lines_15 rfl (lv_at hl 2 rfl) ?_
  refine k_callI (As := [.int (zi k)]) (rest := []) hX hl.1 (m_linesOf hI σ a k (by omega) r1 hkc (fun j x y => (r2 j x y).1)) (cwV 1 hts gX7_lines_X5_linesOf rfl rfl rfl (by decide +kernel) ⟨Nat.le_of_ble_eq_true rfl, Nat.le_of_ble_eq_true rfl⟩) (rc_Reel hC hW (by omega)) hW hS ⟨Nat.zero_le _, Nat.zero_le _⟩ rfl rfl (Nat.le_of_ble_eq_true rfl) dX7_lines_16 (fun H locs hW hS _ _ => ?_)
  exact k_iret hX rfl hW hS dX7_lines_19
set_option maxHeartbeats 4000000 in
set_option maxRecDepth 100000 in
theorem m_lines_x {l : Launch} {Dg : va_G} {cA : Nat → ClassId} {ad : Nat → Int → Nat} {oc : Nat → Nat} (hI : WI ccnt ad) (hfl : l.stackTraces = false) {N M : Int} (σ : St) (a k : Int) (hv : Inv N M σ) (h1 : ¬ (0 ≤ a ∧ a < σ 26 0 0)) (hxr : -2147483648 ≤ a ∧ a < 2147483648) : GX l yX7_lines wsX7_lines ({ frames := 7, cells := 1, slots := 6, locals := 111 } : Room) Dg cA ccnt ad oc (cE cA ad σ) [.ref (ad 0 0), .int (zi a), .int (zi k)] "java/lang/IndexOutOfBoundsException" := by
  intro sz
  refine gx_ent (cc := cX7_lines) (maxL := 3) (ret := (some .int)) (by decide) rfl hI (Nat.le_of_ble_eq_true rfl) ?_
  intro pgm env s₀ m₀ bel mth cod hX hno hW hS hsz ls hl
  subst hsz
  have hC := hX.1
  have hx := hC.1
  have hb := hC.2.1
  have hts := hC.2.2.2.1
  have hl : lv_has ls 3 [(0, .ref (ad 0 0)), (1, .int (zi a)), (2, .int (zi k))] := hl
  have hA := hv.A
  unfold IvA at hA
  refine lv_aload_n hx hb dX7_lines_0 rfl (lv_at hl 0 rfl) ?_
  refine lv_iload_n hx hb dX7_lines_1 rfl (lv_at hl 1 rfl) ?_
  exact k_callX (As := [.int (zi a)]) (rest := []) hX hno hl.1 (m_checkList_x hI hfl σ a h1 (by omega) hxr) (cwV 1 hts gX7_lines_X7_checkList rfl rfl rfl (by decide +kernel) ⟨Nat.le_of_ble_eq_true rfl, Nat.le_of_ble_eq_true rfl⟩) (rc_KR hC hW) hW hS ⟨Nat.le_of_ble_eq_true rfl, Nat.le_of_ble_eq_true rfl⟩ rfl rfl (Nat.le_of_ble_eq_true rfl) dX7_lines_2
set_option maxHeartbeats 4000000 in
set_option maxRecDepth 100000 in
theorem m_lines_k {l : Launch} {Dg : va_G} {cA : Nat → ClassId} {ad : Nat → Int → Nat} {oc : Nat → Nat} (hI : WI ccnt ad) (hfl : l.stackTraces = false) {N M : Int} (σ : St) (a k : Int) (hv : Inv N M σ) (hl0 : 0 ≤ a ∧ a < σ 26 0 0) (hkc : 0 ≤ k ∧ k < 65536) (hkm : mostN k = -1) : GX l yX7_lines wsX7_lines ({ frames := 7, cells := 1, slots := 6, locals := 111 } : Room) Dg cA ccnt ad oc (cE cA ad σ) [.ref (ad 0 0), .int (zi a), .int (zi k)] "java/lang/IllegalArgumentException" := by
  intro sz
  refine gx_ent (cc := cX7_lines) (maxL := 3) (ret := (some .int)) (by decide) rfl hI (Nat.le_of_ble_eq_true rfl) ?_
  intro pgm env s₀ m₀ bel mth cod hX hno hW hS hsz ls hl
  subst hsz
  have hC := hX.1
  have hx := hC.1
  have hb := hC.2.1
  have hts := hC.2.2.2.1
  have hl : lv_has ls 3 [(0, .ref (ad 0 0)), (1, .int (zi a)), (2, .int (zi k))] := hl
  have hA := hv.A
  unfold IvA at hA
  refine lv_aload_n hx hb dX7_lines_0 rfl (lv_at hl 0 rfl) ?_
  refine lv_iload_n hx hb dX7_lines_1 rfl (lv_at hl 1 rfl) ?_
  refine k_callV (As := [.int (zi a)]) (rest := []) hX hl.1 (m_checkList hI σ a hl0 (by omega)) (cwV 1 hts gX7_lines_X7_checkList rfl rfl rfl (by decide +kernel) ⟨Nat.le_of_ble_eq_true rfl, Nat.le_of_ble_eq_true rfl⟩) (rc_KR hC hW) hW hS ⟨Nat.zero_le _, Nat.zero_le _⟩ rfl rfl (Nat.le_of_ble_eq_true rfl) dX7_lines_2 (fun H locs hW hS _ _ => ?_)
  refine lv_iload_n hx hb dX7_lines_5 rfl (lv_at hl 2 rfl) ?_
  exact k_callSX (As := [.int (zi k)]) (rest := []) hX hno hl.1 (m_checkKind_x hI hfl σ k hkc hkm) (cwS 1 hts gX7_lines_X7_checkKind rfl rfl rfl (by decide +kernel) ⟨Nat.le_of_ble_eq_true rfl, Nat.le_of_ble_eq_true rfl⟩) hW hS ⟨Nat.le_of_ble_eq_true rfl, Nat.le_of_ble_eq_true rfl⟩ rfl rfl (Nat.le_of_ble_eq_true rfl) dX7_lines_6
set_option maxHeartbeats 4000000 in
set_option maxRecDepth 100000 in
theorem m_plays {l : Launch} {Dg : va_G} {cA : Nat → ClassId} {ad : Nat → Int → Nat} {oc : Nat → Nat} (hI : WI ccnt ad) {N M : Int} (σ : St) (k : Int) (hv : Inv N M σ) (hk : 0 ≤ k ∧ k < σ 27 0 0) (h6 : σ 6 k 0 = 1) : GI l yX7_plays wsX7_plays ({ frames := 8, cells := 0, slots := 0, locals := 132 } : Room) Dg cA ccnt ad oc (cE cA ad σ) [.ref (ad 0 0), .int (zi k)] (σ 8 k 0) (cE cA ad σ) := by
  intro sz
  refine g_ent (cc := cX7_plays) (maxL := 2) (ret := (some .int)) (by decide) rfl hI (Nat.le_of_ble_eq_true rfl) ?_
  intro pgm env s₀ m₀ bel mth cod hX hW hS hsz ls hl
  subst hsz
  have hC := hX.1
  have hx := hC.1
  have hb := hC.2.1
  have hts := hC.2.2.2.1
  have hl : lv_has ls 2 [(0, .ref (ad 0 0)), (1, .int (zi k))] := hl
  have hin_X3 : ∀ w ∈ wsX30, w ∈ wsX7_plays := by decide +kernel
  have hin_X7 : ∀ w ∈ wsX70, w ∈ wsX7_plays := by decide +kernel
  have hl_23 := hts (.fieldLink RX7 23 "KioskReel" "players" "[LKioskReel$Player;") (by decide +kernel)
  have hl_125 := hts (.fieldLink RX7 125 "KioskReel$Player" "place" "I") (by decide +kernel)
  have hA := hv.A
  unfold IvA at hA
  have hk6 : 0 ≤ k ∧ k < 6 := by omega
  refine lv_aload_n hx hb dX7_plays_0 rfl (lv_at hl 0 rfl) ?_
  refine lv_iload_n hx hb dX7_plays_1 rfl (lv_at hl 1 rfl) ?_
  refine k_callV (As := [.int (zi k)]) (rest := []) hX hl.1 (m_checkPlayer hI σ k hv hk h6) (cwV 1 hts gX7_plays_X7_checkPlayer rfl rfl rfl (by decide +kernel) ⟨Nat.le_of_ble_eq_true rfl, Nat.le_of_ble_eq_true rfl⟩) (rc_KR hC hW) hW hS ⟨Nat.zero_le _, Nat.zero_le _⟩ rfl rfl (Nat.le_of_ble_eq_true rfl) dX7_plays_2 (fun H locs hW hS _ _ => ?_)
  refine lv_aload_n hx hb dX7_plays_5 rfl (lv_at hl 0 rfl) ?_
  refine cg_KR_players hC hW hin_X7 hl_23 dX7_plays_6 ?_
  refine lv_iload_n hx hb dX7_plays_9 rfl (lv_at hl 1 rfl) ?_
  refine ca_players hC hW (by omega) dX7_plays_10 ?_
  refine cg_Player_place hC hW hin_X3 hl_125 (by omega) (v := σ 8 k 0) rfl dX7_plays_11 ?_
  exact k_iret hX rfl hW hS dX7_plays_14
set_option maxHeartbeats 4000000 in
set_option maxRecDepth 100000 in
theorem m_count {l : Launch} {Dg : va_G} {cA : Nat → ClassId} {ad : Nat → Int → Nat} {oc : Nat → Nat} (hI : WI ccnt ad) {N M : Int} (σ : St) (k : Int) (hv : Inv N M σ) (hk : 0 ≤ k ∧ k < σ 27 0 0) (h6 : σ 6 k 0 = 1) : GI l yX7_count wsX7_count ({ frames := 8, cells := 0, slots := 0, locals := 132 } : Room) Dg cA ccnt ad oc (cE cA ad σ) [.ref (ad 0 0), .int (zi k)] (σ 9 k 0) (cE cA ad σ) := by
  intro sz
  refine g_ent (cc := cX7_count) (maxL := 2) (ret := (some .int)) (by decide) rfl hI (Nat.le_of_ble_eq_true rfl) ?_
  intro pgm env s₀ m₀ bel mth cod hX hW hS hsz ls hl
  subst hsz
  have hC := hX.1
  have hx := hC.1
  have hb := hC.2.1
  have hts := hC.2.2.2.1
  have hl : lv_has ls 2 [(0, .ref (ad 0 0)), (1, .int (zi k))] := hl
  have hin_X3 : ∀ w ∈ wsX30, w ∈ wsX7_count := by decide +kernel
  have hin_X7 : ∀ w ∈ wsX70, w ∈ wsX7_count := by decide +kernel
  have hl_23 := hts (.fieldLink RX7 23 "KioskReel" "players" "[LKioskReel$Player;") (by decide +kernel)
  have hl_181 := hts (.fieldLink RX7 181 "KioskReel$Player" "counter" "I") (by decide +kernel)
  have hA := hv.A
  unfold IvA at hA
  have hk6 : 0 ≤ k ∧ k < 6 := by omega
  refine lv_aload_n hx hb dX7_count_0 rfl (lv_at hl 0 rfl) ?_
  refine lv_iload_n hx hb dX7_count_1 rfl (lv_at hl 1 rfl) ?_
  refine k_callV (As := [.int (zi k)]) (rest := []) hX hl.1 (m_checkPlayer hI σ k hv hk h6) (cwV 1 hts gX7_count_X7_checkPlayer rfl rfl rfl (by decide +kernel) ⟨Nat.le_of_ble_eq_true rfl, Nat.le_of_ble_eq_true rfl⟩) (rc_KR hC hW) hW hS ⟨Nat.zero_le _, Nat.zero_le _⟩ rfl rfl (Nat.le_of_ble_eq_true rfl) dX7_count_2 (fun H locs hW hS _ _ => ?_)
  refine lv_aload_n hx hb dX7_count_5 rfl (lv_at hl 0 rfl) ?_
  refine cg_KR_players hC hW hin_X7 hl_23 dX7_count_6 ?_
  refine lv_iload_n hx hb dX7_count_9 rfl (lv_at hl 1 rfl) ?_
  refine ca_players hC hW (by omega) dX7_count_10 ?_
  refine cg_Player_counter hC hW hin_X3 hl_181 (by omega) (v := σ 9 k 0) rfl dX7_count_11 ?_
  exact k_iret hX rfl hW hS dX7_count_14
set_option maxHeartbeats 4000000 in
set_option maxRecDepth 100000 in
theorem m_waits {l : Launch} {Dg : va_G} {cA : Nat → ClassId} {ad : Nat → Int → Nat} {oc : Nat → Nat} (hI : WI ccnt ad) {N M : Int} (σ : St) (k : Int) (hv : Inv N M σ) (hk : 0 ≤ k ∧ k < σ 27 0 0) (h6 : σ 6 k 0 = 1) : GI l yX7_waits wsX7_waits ({ frames := 8, cells := 0, slots := 0, locals := 132 } : Room) Dg cA ccnt ad oc (cE cA ad σ) [.ref (ad 0 0), .int (zi k)] (if σ 11 k 0 ≠ -1 then 100 else σ 10 k 0) (cE cA ad σ) := by
  intro sz
  refine g_ent (cc := cX7_waits) (maxL := 3) (ret := (some .int)) (by decide) rfl hI (Nat.le_of_ble_eq_true rfl) ?_
  intro pgm env s₀ m₀ bel mth cod hX hW hS hsz ls hl
  subst hsz
  have hC := hX.1
  have hx := hC.1
  have hb := hC.2.1
  have hts := hC.2.2.2.1
  have hl : lv_has ls 3 [(0, .ref (ad 0 0)), (1, .int (zi k))] := hl
  have hin_X3 : ∀ w ∈ wsX30, w ∈ wsX7_waits := by decide +kernel
  have hin_X7 : ∀ w ∈ wsX70, w ∈ wsX7_waits := by decide +kernel
  have hl_23 := hts (.fieldLink RX7 23 "KioskReel" "players" "[LKioskReel$Player;") (by decide +kernel)
  have hl_184 := hts (.fieldLink RX7 184 "KioskReel$Player" "awaitedDevice" "I") (by decide +kernel)
  have hl_187 := hts (.fieldLink RX7 187 "KioskReel$Player" "ticksToWait" "I") (by decide +kernel)
  have hA := hv.A
  unfold IvA at hA
  have hk6 : 0 ≤ k ∧ k < 6 := by omega
  have hU := hv.U k hk6.1 hk6.2
  refine lv_aload_n hx hb dX7_waits_0 rfl (lv_at hl 0 rfl) ?_
  refine lv_iload_n hx hb dX7_waits_1 rfl (lv_at hl 1 rfl) ?_
  refine k_callV (As := [.int (zi k)]) (rest := []) hX hl.1 (m_checkPlayer hI σ k hv hk h6) (cwV 1 hts gX7_waits_X7_checkPlayer rfl rfl rfl (by decide +kernel) ⟨Nat.le_of_ble_eq_true rfl, Nat.le_of_ble_eq_true rfl⟩) (rc_KR hC hW) hW hS ⟨Nat.zero_le _, Nat.zero_le _⟩ rfl rfl (Nat.le_of_ble_eq_true rfl) dX7_waits_2 (fun H locs hW hS _ _ => ?_)
  refine lv_aload_n hx hb dX7_waits_5 rfl (lv_at hl 0 rfl) ?_
  refine cg_KR_players hC hW hin_X7 hl_23 dX7_waits_6 ?_
  refine lv_iload_n hx hb dX7_waits_9 rfl (lv_at hl 1 rfl) ?_
  refine ca_players hC hW (by omega) dX7_waits_10 ?_
  refine lv_astore_n (lv' := [(2, .ref (ad 10 k)), (0, .ref (ad 0 0)), (1, .int (zi k))]) hx hb dX7_waits_11 rfl hl (by decide) rfl (fun ls hl => ?_)
  refine lv_aload_n hx hb dX7_waits_12 rfl (lv_at hl 0 rfl) ?_
  refine cg_Player_awaitedDevice hC hW hin_X3 hl_184 (by omega) (v := σ 11 k 0) rfl dX7_waits_13 ?_
  refine k_iconst hC dX7_waits_16 ?_
  refine k_icmp_eq (tgt := 25) hC dX7_waits_17 (by decide) (by omega) (fun c1 => ?_) (fun c1 => ?_)
  · refine lv_aload_n hx hb dX7_waits_25 rfl (lv_at hl 0 rfl) ?_
    refine cg_Player_ticksToWait hC hW hin_X3 hl_187 (by omega) (v := σ 10 k 0) rfl dX7_waits_26 ?_
    exact k_iret hX (by first | rw [if_pos (by omega)] | rw [if_neg (by omega)]) hW hS dX7_waits_29
  · refine k_bipush hC dX7_waits_20 (by decide) ?_
    refine lv_goto (tgt := 29) hx hb dX7_waits_22 (by decide) ?_
    exact k_iret hX (by first | rw [if_pos (by omega)] | rw [if_neg (by omega)]) hW hS dX7_waits_29
set_option maxHeartbeats 4000000 in
set_option maxRecDepth 100000 in
theorem m_next {l : Launch} {Dg : va_G} {cA : Nat → ClassId} {ad : Nat → Int → Nat} {oc : Nat → Nat} (hI : WI ccnt ad) {N M : Int} (σ : St) (k : Int) (hv : Inv N M σ) (hk : 0 ≤ k ∧ k < σ 27 0 0) (h6 : σ 6 k 0 = 1) : GI l yX7_next wsX7_next ({ frames := 8, cells := 0, slots := 0, locals := 132 } : Room) Dg cA ccnt ad oc (cE cA ad σ) [.ref (ad 0 0), .int (zi k)] (100 * σ 5 k 0 + σ 4 k (σ 5 k 0 - 1)) (cE cA ad σ) := by
  intro sz
  refine g_ent (cc := cX7_next) (maxL := 3) (ret := (some .int)) (by decide) rfl hI (Nat.le_of_ble_eq_true rfl) ?_
  intro pgm env s₀ m₀ bel mth cod hX hW hS hsz ls hl
  subst hsz
  have hC := hX.1
  have hx := hC.1
  have hb := hC.2.1
  have hts := hC.2.2.2.1
  have hl : lv_has ls 3 [(0, .ref (ad 0 0)), (1, .int (zi k))] := hl
  have hin_X3 : ∀ w ∈ wsX30, w ∈ wsX7_next := by decide +kernel
  have hin_X7 : ∀ w ∈ wsX70, w ∈ wsX7_next := by decide +kernel
  have hl_23 := hts (.fieldLink RX7 23 "KioskReel" "players" "[LKioskReel$Player;") (by decide +kernel)
  have hl_174 := hts (.fieldLink RX7 174 "KioskReel$Player" "height" "I") (by decide +kernel)
  have hA := hv.A
  unfold IvA at hA
  have hk6 : 0 ≤ k ∧ k < 6 := by omega
  obtain ⟨hD1, hD2⟩ := hv.D k hk6.1 hk6.2
  have hD3 := hD2 h6
  refine lv_aload_n hx hb dX7_next_0 rfl (lv_at hl 0 rfl) ?_
  refine lv_iload_n hx hb dX7_next_1 rfl (lv_at hl 1 rfl) ?_
  refine k_callV (As := [.int (zi k)]) (rest := []) hX hl.1 (m_checkPlayer hI σ k hv hk h6) (cwV 1 hts gX7_next_X7_checkPlayer rfl rfl rfl (by decide +kernel) ⟨Nat.le_of_ble_eq_true rfl, Nat.le_of_ble_eq_true rfl⟩) (rc_KR hC hW) hW hS ⟨Nat.zero_le _, Nat.zero_le _⟩ rfl rfl (Nat.le_of_ble_eq_true rfl) dX7_next_2 (fun H locs hW hS _ _ => ?_)
  refine lv_aload_n hx hb dX7_next_5 rfl (lv_at hl 0 rfl) ?_
  refine cg_KR_players hC hW hin_X7 hl_23 dX7_next_6 ?_
  refine lv_iload_n hx hb dX7_next_9 rfl (lv_at hl 1 rfl) ?_
  refine ca_players hC hW (by omega) dX7_next_10 ?_
  refine lv_astore_n (lv' := [(2, .ref (ad 10 k)), (0, .ref (ad 0 0)), (1, .int (zi k))]) hx hb dX7_next_11 rfl hl (by decide) rfl (fun ls hl => ?_)
  refine k_bipush hC dX7_next_12 (by decide) ?_
  refine lv_aload_n hx hb dX7_next_14 rfl (lv_at hl 0 rfl) ?_
  refine cg_Player_height hC hW hin_X3 hl_174 (by omega) (v := σ 5 k 0) rfl dX7_next_15 ?_
  refine k_imul hC dX7_next_18 ?_
  refine lv_aload_n hx hb dX7_next_19 rfl (lv_at hl 0 rfl) ?_
  refine k_callI (As := []) (rest := [.int (zi (100 * (σ 5 k 0)))]) hX hl.1 (m_lineAhead hI σ k hk6 (by omega)) (cwV 0 hts gX7_next_X3_lineAhead rfl rfl rfl (by decide +kernel) ⟨Nat.le_of_ble_eq_true rfl, Nat.le_of_ble_eq_true rfl⟩) (rc_Player hC hW (by omega)) hW hS ⟨Nat.zero_le _, Nat.zero_le _⟩ rfl rfl (Nat.le_of_ble_eq_true rfl) dX7_next_20 (fun H locs hW hS _ _ => ?_)
  refine k_iadd hC dX7_next_23 ?_
  exact k_iret hX rfl hW hS dX7_next_24
set_option maxHeartbeats 4000000 in
set_option maxRecDepth 100000 in
theorem m_plays_x {l : Launch} {Dg : va_G} {cA : Nat → ClassId} {ad : Nat → Int → Nat} {oc : Nat → Nat} (hI : WI ccnt ad) (hfl : l.stackTraces = false) {N M : Int} (σ : St) (k : Int) (hv : Inv N M σ) (h1 : ¬ (0 ≤ k ∧ k < σ 27 0 0)) (hxr : -2147483648 ≤ k ∧ k < 2147483648) : GX l yX7_plays wsX7_plays ({ frames := 8, cells := 1, slots := 6, locals := 132 } : Room) Dg cA ccnt ad oc (cE cA ad σ) [.ref (ad 0 0), .int (zi k)] "java/lang/IndexOutOfBoundsException" := by
  intro sz
  refine gx_ent (cc := cX7_plays) (maxL := 2) (ret := (some .int)) (by decide) rfl hI (Nat.le_of_ble_eq_true rfl) ?_
  intro pgm env s₀ m₀ bel mth cod hX hno hW hS hsz ls hl
  subst hsz
  have hC := hX.1
  have hx := hC.1
  have hb := hC.2.1
  have hts := hC.2.2.2.1
  have hl : lv_has ls 2 [(0, .ref (ad 0 0)), (1, .int (zi k))] := hl
  refine lv_aload_n hx hb dX7_plays_0 rfl (lv_at hl 0 rfl) ?_
  refine lv_iload_n hx hb dX7_plays_1 rfl (lv_at hl 1 rfl) ?_
  exact k_callX (As := [.int (zi k)]) (rest := []) hX hno hl.1 (m_checkPlayer_x hI hfl σ k hv h1 hxr) (cwV 1 hts gX7_plays_X7_checkPlayer rfl rfl rfl (by decide +kernel) ⟨Nat.le_of_ble_eq_true rfl, Nat.le_of_ble_eq_true rfl⟩) (rc_KR hC hW) hW hS ⟨Nat.le_of_ble_eq_true rfl, Nat.le_of_ble_eq_true rfl⟩ rfl rfl (Nat.le_of_ble_eq_true rfl) dX7_plays_2
set_option maxHeartbeats 4000000 in
set_option maxRecDepth 100000 in
theorem m_plays_n {l : Launch} {Dg : va_G} {cA : Nat → ClassId} {ad : Nat → Int → Nat} {oc : Nat → Nat} (hI : WI ccnt ad) (hfl : l.stackTraces = false) {N M : Int} (σ : St) (k : Int) (hv : Inv N M σ) (hk : 0 ≤ k ∧ k < σ 27 0 0) (h2 : σ 6 k 0 = 0) : GX l yX7_plays wsX7_plays ({ frames := 8, cells := 1, slots := 6, locals := 132 } : Room) Dg cA ccnt ad oc (cE cA ad σ) [.ref (ad 0 0), .int (zi k)] "java/util/NoSuchElementException" := by
  intro sz
  refine gx_ent (cc := cX7_plays) (maxL := 2) (ret := (some .int)) (by decide) rfl hI (Nat.le_of_ble_eq_true rfl) ?_
  intro pgm env s₀ m₀ bel mth cod hX hno hW hS hsz ls hl
  subst hsz
  have hC := hX.1
  have hx := hC.1
  have hb := hC.2.1
  have hts := hC.2.2.2.1
  have hl : lv_has ls 2 [(0, .ref (ad 0 0)), (1, .int (zi k))] := hl
  refine lv_aload_n hx hb dX7_plays_0 rfl (lv_at hl 0 rfl) ?_
  refine lv_iload_n hx hb dX7_plays_1 rfl (lv_at hl 1 rfl) ?_
  exact k_callX (As := [.int (zi k)]) (rest := []) hX hno hl.1 (m_checkPlayer_n hI hfl σ k hv hk h2) (cwV 1 hts gX7_plays_X7_checkPlayer rfl rfl rfl (by decide +kernel) ⟨Nat.le_of_ble_eq_true rfl, Nat.le_of_ble_eq_true rfl⟩) (rc_KR hC hW) hW hS ⟨Nat.le_of_ble_eq_true rfl, Nat.le_of_ble_eq_true rfl⟩ rfl rfl (Nat.le_of_ble_eq_true rfl) dX7_plays_2
set_option maxHeartbeats 4000000 in
set_option maxRecDepth 100000 in
theorem m_count_x {l : Launch} {Dg : va_G} {cA : Nat → ClassId} {ad : Nat → Int → Nat} {oc : Nat → Nat} (hI : WI ccnt ad) (hfl : l.stackTraces = false) {N M : Int} (σ : St) (k : Int) (hv : Inv N M σ) (h1 : ¬ (0 ≤ k ∧ k < σ 27 0 0)) (hxr : -2147483648 ≤ k ∧ k < 2147483648) : GX l yX7_count wsX7_count ({ frames := 8, cells := 1, slots := 6, locals := 132 } : Room) Dg cA ccnt ad oc (cE cA ad σ) [.ref (ad 0 0), .int (zi k)] "java/lang/IndexOutOfBoundsException" := by
  intro sz
  refine gx_ent (cc := cX7_count) (maxL := 2) (ret := (some .int)) (by decide) rfl hI (Nat.le_of_ble_eq_true rfl) ?_
  intro pgm env s₀ m₀ bel mth cod hX hno hW hS hsz ls hl
  subst hsz
  have hC := hX.1
  have hx := hC.1
  have hb := hC.2.1
  have hts := hC.2.2.2.1
  have hl : lv_has ls 2 [(0, .ref (ad 0 0)), (1, .int (zi k))] := hl
  refine lv_aload_n hx hb dX7_count_0 rfl (lv_at hl 0 rfl) ?_
  refine lv_iload_n hx hb dX7_count_1 rfl (lv_at hl 1 rfl) ?_
  exact k_callX (As := [.int (zi k)]) (rest := []) hX hno hl.1 (m_checkPlayer_x hI hfl σ k hv h1 hxr) (cwV 1 hts gX7_count_X7_checkPlayer rfl rfl rfl (by decide +kernel) ⟨Nat.le_of_ble_eq_true rfl, Nat.le_of_ble_eq_true rfl⟩) (rc_KR hC hW) hW hS ⟨Nat.le_of_ble_eq_true rfl, Nat.le_of_ble_eq_true rfl⟩ rfl rfl (Nat.le_of_ble_eq_true rfl) dX7_count_2
set_option maxHeartbeats 4000000 in
set_option maxRecDepth 100000 in
theorem m_count_n {l : Launch} {Dg : va_G} {cA : Nat → ClassId} {ad : Nat → Int → Nat} {oc : Nat → Nat} (hI : WI ccnt ad) (hfl : l.stackTraces = false) {N M : Int} (σ : St) (k : Int) (hv : Inv N M σ) (hk : 0 ≤ k ∧ k < σ 27 0 0) (h2 : σ 6 k 0 = 0) : GX l yX7_count wsX7_count ({ frames := 8, cells := 1, slots := 6, locals := 132 } : Room) Dg cA ccnt ad oc (cE cA ad σ) [.ref (ad 0 0), .int (zi k)] "java/util/NoSuchElementException" := by
  intro sz
  refine gx_ent (cc := cX7_count) (maxL := 2) (ret := (some .int)) (by decide) rfl hI (Nat.le_of_ble_eq_true rfl) ?_
  intro pgm env s₀ m₀ bel mth cod hX hno hW hS hsz ls hl
  subst hsz
  have hC := hX.1
  have hx := hC.1
  have hb := hC.2.1
  have hts := hC.2.2.2.1
  have hl : lv_has ls 2 [(0, .ref (ad 0 0)), (1, .int (zi k))] := hl
  refine lv_aload_n hx hb dX7_count_0 rfl (lv_at hl 0 rfl) ?_
  refine lv_iload_n hx hb dX7_count_1 rfl (lv_at hl 1 rfl) ?_
  exact k_callX (As := [.int (zi k)]) (rest := []) hX hno hl.1 (m_checkPlayer_n hI hfl σ k hv hk h2) (cwV 1 hts gX7_count_X7_checkPlayer rfl rfl rfl (by decide +kernel) ⟨Nat.le_of_ble_eq_true rfl, Nat.le_of_ble_eq_true rfl⟩) (rc_KR hC hW) hW hS ⟨Nat.le_of_ble_eq_true rfl, Nat.le_of_ble_eq_true rfl⟩ rfl rfl (Nat.le_of_ble_eq_true rfl) dX7_count_2
set_option maxHeartbeats 4000000 in
set_option maxRecDepth 100000 in
theorem m_waits_x {l : Launch} {Dg : va_G} {cA : Nat → ClassId} {ad : Nat → Int → Nat} {oc : Nat → Nat} (hI : WI ccnt ad) (hfl : l.stackTraces = false) {N M : Int} (σ : St) (k : Int) (hv : Inv N M σ) (h1 : ¬ (0 ≤ k ∧ k < σ 27 0 0)) (hxr : -2147483648 ≤ k ∧ k < 2147483648) : GX l yX7_waits wsX7_waits ({ frames := 8, cells := 1, slots := 6, locals := 132 } : Room) Dg cA ccnt ad oc (cE cA ad σ) [.ref (ad 0 0), .int (zi k)] "java/lang/IndexOutOfBoundsException" := by
  intro sz
  refine gx_ent (cc := cX7_waits) (maxL := 3) (ret := (some .int)) (by decide) rfl hI (Nat.le_of_ble_eq_true rfl) ?_
  intro pgm env s₀ m₀ bel mth cod hX hno hW hS hsz ls hl
  subst hsz
  have hC := hX.1
  have hx := hC.1
  have hb := hC.2.1
  have hts := hC.2.2.2.1
  have hl : lv_has ls 3 [(0, .ref (ad 0 0)), (1, .int (zi k))] := hl
  refine lv_aload_n hx hb dX7_waits_0 rfl (lv_at hl 0 rfl) ?_
  refine lv_iload_n hx hb dX7_waits_1 rfl (lv_at hl 1 rfl) ?_
  exact k_callX (As := [.int (zi k)]) (rest := []) hX hno hl.1 (m_checkPlayer_x hI hfl σ k hv h1 hxr) (cwV 1 hts gX7_waits_X7_checkPlayer rfl rfl rfl (by decide +kernel) ⟨Nat.le_of_ble_eq_true rfl, Nat.le_of_ble_eq_true rfl⟩) (rc_KR hC hW) hW hS ⟨Nat.le_of_ble_eq_true rfl, Nat.le_of_ble_eq_true rfl⟩ rfl rfl (Nat.le_of_ble_eq_true rfl) dX7_waits_2
set_option maxHeartbeats 4000000 in
set_option maxRecDepth 100000 in
theorem m_waits_n {l : Launch} {Dg : va_G} {cA : Nat → ClassId} {ad : Nat → Int → Nat} {oc : Nat → Nat} (hI : WI ccnt ad) (hfl : l.stackTraces = false) {N M : Int} (σ : St) (k : Int) (hv : Inv N M σ) (hk : 0 ≤ k ∧ k < σ 27 0 0) (h2 : σ 6 k 0 = 0) : GX l yX7_waits wsX7_waits ({ frames := 8, cells := 1, slots := 6, locals := 132 } : Room) Dg cA ccnt ad oc (cE cA ad σ) [.ref (ad 0 0), .int (zi k)] "java/util/NoSuchElementException" := by
  intro sz
  refine gx_ent (cc := cX7_waits) (maxL := 3) (ret := (some .int)) (by decide) rfl hI (Nat.le_of_ble_eq_true rfl) ?_
  intro pgm env s₀ m₀ bel mth cod hX hno hW hS hsz ls hl
  subst hsz
  have hC := hX.1
  have hx := hC.1
  have hb := hC.2.1
  have hts := hC.2.2.2.1
  have hl : lv_has ls 3 [(0, .ref (ad 0 0)), (1, .int (zi k))] := hl
  refine lv_aload_n hx hb dX7_waits_0 rfl (lv_at hl 0 rfl) ?_
  refine lv_iload_n hx hb dX7_waits_1 rfl (lv_at hl 1 rfl) ?_
  exact k_callX (As := [.int (zi k)]) (rest := []) hX hno hl.1 (m_checkPlayer_n hI hfl σ k hv hk h2) (cwV 1 hts gX7_waits_X7_checkPlayer rfl rfl rfl (by decide +kernel) ⟨Nat.le_of_ble_eq_true rfl, Nat.le_of_ble_eq_true rfl⟩) (rc_KR hC hW) hW hS ⟨Nat.le_of_ble_eq_true rfl, Nat.le_of_ble_eq_true rfl⟩ rfl rfl (Nat.le_of_ble_eq_true rfl) dX7_waits_2
set_option maxHeartbeats 4000000 in
set_option maxRecDepth 100000 in
theorem m_next_x {l : Launch} {Dg : va_G} {cA : Nat → ClassId} {ad : Nat → Int → Nat} {oc : Nat → Nat} (hI : WI ccnt ad) (hfl : l.stackTraces = false) {N M : Int} (σ : St) (k : Int) (hv : Inv N M σ) (h1 : ¬ (0 ≤ k ∧ k < σ 27 0 0)) (hxr : -2147483648 ≤ k ∧ k < 2147483648) : GX l yX7_next wsX7_next ({ frames := 8, cells := 1, slots := 6, locals := 132 } : Room) Dg cA ccnt ad oc (cE cA ad σ) [.ref (ad 0 0), .int (zi k)] "java/lang/IndexOutOfBoundsException" := by
  intro sz
  refine gx_ent (cc := cX7_next) (maxL := 3) (ret := (some .int)) (by decide) rfl hI (Nat.le_of_ble_eq_true rfl) ?_
  intro pgm env s₀ m₀ bel mth cod hX hno hW hS hsz ls hl
  subst hsz
  have hC := hX.1
  have hx := hC.1
  have hb := hC.2.1
  have hts := hC.2.2.2.1
  have hl : lv_has ls 3 [(0, .ref (ad 0 0)), (1, .int (zi k))] := hl
  refine lv_aload_n hx hb dX7_next_0 rfl (lv_at hl 0 rfl) ?_
  refine lv_iload_n hx hb dX7_next_1 rfl (lv_at hl 1 rfl) ?_
  exact k_callX (As := [.int (zi k)]) (rest := []) hX hno hl.1 (m_checkPlayer_x hI hfl σ k hv h1 hxr) (cwV 1 hts gX7_next_X7_checkPlayer rfl rfl rfl (by decide +kernel) ⟨Nat.le_of_ble_eq_true rfl, Nat.le_of_ble_eq_true rfl⟩) (rc_KR hC hW) hW hS ⟨Nat.le_of_ble_eq_true rfl, Nat.le_of_ble_eq_true rfl⟩ rfl rfl (Nat.le_of_ble_eq_true rfl) dX7_next_2
set_option maxHeartbeats 4000000 in
set_option maxRecDepth 100000 in
theorem m_next_n {l : Launch} {Dg : va_G} {cA : Nat → ClassId} {ad : Nat → Int → Nat} {oc : Nat → Nat} (hI : WI ccnt ad) (hfl : l.stackTraces = false) {N M : Int} (σ : St) (k : Int) (hv : Inv N M σ) (hk : 0 ≤ k ∧ k < σ 27 0 0) (h2 : σ 6 k 0 = 0) : GX l yX7_next wsX7_next ({ frames := 8, cells := 1, slots := 6, locals := 132 } : Room) Dg cA ccnt ad oc (cE cA ad σ) [.ref (ad 0 0), .int (zi k)] "java/util/NoSuchElementException" := by
  intro sz
  refine gx_ent (cc := cX7_next) (maxL := 3) (ret := (some .int)) (by decide) rfl hI (Nat.le_of_ble_eq_true rfl) ?_
  intro pgm env s₀ m₀ bel mth cod hX hno hW hS hsz ls hl
  subst hsz
  have hC := hX.1
  have hx := hC.1
  have hb := hC.2.1
  have hts := hC.2.2.2.1
  have hl : lv_has ls 3 [(0, .ref (ad 0 0)), (1, .int (zi k))] := hl
  refine lv_aload_n hx hb dX7_next_0 rfl (lv_at hl 0 rfl) ?_
  refine lv_iload_n hx hb dX7_next_1 rfl (lv_at hl 1 rfl) ?_
  exact k_callX (As := [.int (zi k)]) (rest := []) hX hno hl.1 (m_checkPlayer_n hI hfl σ k hv hk h2) (cwV 1 hts gX7_next_X7_checkPlayer rfl rfl rfl (by decide +kernel) ⟨Nat.le_of_ble_eq_true rfl, Nat.le_of_ble_eq_true rfl⟩) (rc_KR hC hW) hW hS ⟨Nat.le_of_ble_eq_true rfl, Nat.le_of_ble_eq_true rfl⟩ rfl rfl (Nat.le_of_ble_eq_true rfl) dX7_next_2
set_option maxHeartbeats 4000000 in
set_option maxRecDepth 100000 in
theorem m_playerAt {l : Launch} {Dg : va_G} {cA : Nat → ClassId} {ad : Nat → Int → Nat} {oc : Nat → Nat} (hI : WI ccnt ad) {N M : Int} (σ : St) (k j : Int) (hv : Inv N M σ) (hk : 0 ≤ k ∧ k < σ 27 0 0) (hj : 0 ≤ j ∧ j < σ 17 k 0) : GI l yX7_playerAt wsX7_playerAt ({ frames := 7, cells := 0, slots := 0, locals := 111 } : Room) Dg cA ccnt ad oc (cE cA ad σ) [.ref (ad 0 0), .int (zi k), .int (zi j)] (σ 16 k j) (cE cA ad σ) := by
  intro sz
  refine g_ent (cc := cX7_playerAt) (maxL := 4) (ret := (some .int)) (by decide) rfl hI (Nat.le_of_ble_eq_true rfl) ?_
  intro pgm env s₀ m₀ bel mth cod hX hW hS hsz ls hl
  subst hsz
  have hC := hX.1
  have hx := hC.1
  have hb := hC.2.1
  have hts := hC.2.2.2.1
  have hl : lv_has ls 4 [(0, .ref (ad 0 0)), (1, .int (zi k)), (2, .int (zi j))] := hl
  have hin_X1 : ∀ w ∈ wsX10, w ∈ wsX7_playerAt := by decide +kernel
  have hin_X4 : ∀ w ∈ wsX40, w ∈ wsX7_playerAt := by decide +kernel
  have hin_X7 : ∀ w ∈ wsX70, w ∈ wsX7_playerAt := by decide +kernel
  have hl_17 := hts (.fieldLink RX7 17 "KioskReel" "kiosks" "[LKioskReel$Kiosk;") (by decide +kernel)
  have hl_161 := hts (.fieldLink RX7 161 "KioskReel$Kiosk" "playing" "LKioskReel$PlayerRow;") (by decide +kernel)
  have hl_164 := hts (.fieldLink RX7 164 "KioskReel$PlayerRow" "size" "I") (by decide +kernel)
  have hl_170 := hts (.fieldLink RX7 170 "KioskReel$PlayerRow" "members" "[I") (by decide +kernel)
  have hA := hv.A
  unfold IvA at hA
  have hk6 : 0 ≤ k ∧ k < 6 := by omega
  have hR := (hv.W k (by omega) (by omega)).1
  refine lv_aload_n hx hb dX7_playerAt_0 rfl (lv_at hl 0 rfl) ?_
  refine lv_iload_n hx hb dX7_playerAt_1 rfl (lv_at hl 1 rfl) ?_
  refine k_callV (As := [.int (zi k)]) (rest := []) hX hl.1 (m_checkKiosk hI σ k hk (by omega)) (cwV 1 hts gX7_playerAt_X7_checkKiosk rfl rfl rfl (by decide +kernel) ⟨Nat.le_of_ble_eq_true rfl, Nat.le_of_ble_eq_true rfl⟩) (rc_KR hC hW) hW hS ⟨Nat.zero_le _, Nat.zero_le _⟩ rfl rfl (Nat.le_of_ble_eq_true rfl) dX7_playerAt_2 (fun H locs hW hS _ _ => ?_)
  refine lv_aload_n hx hb dX7_playerAt_5 rfl (lv_at hl 0 rfl) ?_
  refine cg_KR_kiosks hC hW hin_X7 hl_17 dX7_playerAt_6 ?_
  refine lv_iload_n hx hb dX7_playerAt_9 rfl (lv_at hl 1 rfl) ?_
  refine ca_kiosks hC hW (by omega) dX7_playerAt_10 ?_
  refine cg_Kiosk_playing hC hW hin_X1 hl_161 (by omega) dX7_playerAt_11 ?_
  refine lv_astore_n (lv' := [(3, .ref (ad 18 k)), (0, .ref (ad 0 0)), (1, .int (zi k)), (2, .int (zi j))]) hx hb dX7_playerAt_14 rfl hl (by decide) rfl (fun ls hl => ?_)
  refine lv_iload_n hx hb dX7_playerAt_15 rfl (lv_at hl 3 rfl) ?_
  refine k_if_lt (tgt := 27) hC dX7_playerAt_16 (by decide) (by omega) (fun c1 => absurd c1 (by omega)) (fun c1 => ?_)
  refine lv_iload_n hx hb dX7_playerAt_19 rfl (lv_at hl 3 rfl) ?_
  refine lv_aload_n hx hb dX7_playerAt_20 rfl (lv_at hl 0 rfl) ?_
  refine cg_Row_size hC hW hin_X4 hl_164 (by omega) (v := σ 17 k 0) rfl dX7_playerAt_21 ?_
  refine k_icmp_lt (tgt := 37) hC dX7_playerAt_24 (by decide) (by omega) (fun c2 => ?_) (fun c2 => absurd c2 (by omega))
  refine lv_aload_n hx hb dX7_playerAt_37 rfl (lv_at hl 0 rfl) ?_
  refine cg_Row_members hC hW hin_X4 hl_170 (by omega) dX7_playerAt_38 ?_
  refine lv_iload_n hx hb dX7_playerAt_41 rfl (lv_at hl 3 rfl) ?_
  refine ca_members hC hW (by omega) (by omega) (v := σ 16 k j) rfl dX7_playerAt_42 ?_
  exact k_iret hX rfl hW hS dX7_playerAt_43
set_option maxHeartbeats 4000000 in
set_option maxRecDepth 100000 in
theorem m_playerAt_x {l : Launch} {Dg : va_G} {cA : Nat → ClassId} {ad : Nat → Int → Nat} {oc : Nat → Nat} (hI : WI ccnt ad) (hfl : l.stackTraces = false) {N M : Int} (σ : St) (k j : Int) (hv : Inv N M σ) (h1 : ¬ (0 ≤ k ∧ k < σ 27 0 0)) (hxr : -2147483648 ≤ k ∧ k < 2147483648) : GX l yX7_playerAt wsX7_playerAt ({ frames := 7, cells := 1, slots := 6, locals := 111 } : Room) Dg cA ccnt ad oc (cE cA ad σ) [.ref (ad 0 0), .int (zi k), .int (zi j)] "java/lang/IndexOutOfBoundsException" := by
  intro sz
  refine gx_ent (cc := cX7_playerAt) (maxL := 4) (ret := (some .int)) (by decide) rfl hI (Nat.le_of_ble_eq_true rfl) ?_
  intro pgm env s₀ m₀ bel mth cod hX hno hW hS hsz ls hl
  subst hsz
  have hC := hX.1
  have hx := hC.1
  have hb := hC.2.1
  have hts := hC.2.2.2.1
  have hl : lv_has ls 4 [(0, .ref (ad 0 0)), (1, .int (zi k)), (2, .int (zi j))] := hl
  have hA := hv.A
  unfold IvA at hA
  refine lv_aload_n hx hb dX7_playerAt_0 rfl (lv_at hl 0 rfl) ?_
  refine lv_iload_n hx hb dX7_playerAt_1 rfl (lv_at hl 1 rfl) ?_
  exact k_callX (As := [.int (zi k)]) (rest := []) hX hno hl.1 (m_checkKiosk_x hI hfl σ k h1 (by omega) hxr) (cwV 1 hts gX7_playerAt_X7_checkKiosk rfl rfl rfl (by decide +kernel) ⟨Nat.le_of_ble_eq_true rfl, Nat.le_of_ble_eq_true rfl⟩) (rc_KR hC hW) hW hS ⟨Nat.le_of_ble_eq_true rfl, Nat.le_of_ble_eq_true rfl⟩ rfl rfl (Nat.le_of_ble_eq_true rfl) dX7_playerAt_2
set_option maxHeartbeats 4000000 in
set_option maxRecDepth 100000 in
theorem m_playerAt_n {l : Launch} {Dg : va_G} {cA : Nat → ClassId} {ad : Nat → Int → Nat} {oc : Nat → Nat} (hI : WI ccnt ad) (hfl : l.stackTraces = false) {N M : Int} (σ : St) (k j : Int) (hv : Inv N M σ) (hk : 0 ≤ k ∧ k < σ 27 0 0) (hj : ¬ (0 ≤ j ∧ j < σ 17 k 0)) (hxr : -2147483648 ≤ j ∧ j < 2147483648) : GX l yX7_playerAt wsX7_playerAt ({ frames := 7, cells := 1, slots := 6, locals := 111 } : Room) Dg cA ccnt ad oc (cE cA ad σ) [.ref (ad 0 0), .int (zi k), .int (zi j)] "java/util/NoSuchElementException" := by
  intro sz
  refine gx_ent (cc := cX7_playerAt) (maxL := 4) (ret := (some .int)) (by decide) rfl hI (Nat.le_of_ble_eq_true rfl) ?_
  intro pgm env s₀ m₀ bel mth cod hX hno hW hS hsz ls hl
  subst hsz
  have hC := hX.1
  have hx := hC.1
  have hb := hC.2.1
  have hts := hC.2.2.2.1
  have hl : lv_has ls 4 [(0, .ref (ad 0 0)), (1, .int (zi k)), (2, .int (zi j))] := hl
  have hin_X1 : ∀ w ∈ wsX10, w ∈ wsX7_playerAt := by decide +kernel
  have hin_X4 : ∀ w ∈ wsX40, w ∈ wsX7_playerAt := by decide +kernel
  have hin_X7 : ∀ w ∈ wsX70, w ∈ wsX7_playerAt := by decide +kernel
  have hl_17 := hts (.fieldLink RX7 17 "KioskReel" "kiosks" "[LKioskReel$Kiosk;") (by decide +kernel)
  have hl_161 := hts (.fieldLink RX7 161 "KioskReel$Kiosk" "playing" "LKioskReel$PlayerRow;") (by decide +kernel)
  have hl_164 := hts (.fieldLink RX7 164 "KioskReel$PlayerRow" "size" "I") (by decide +kernel)
  have hA := hv.A
  unfold IvA at hA
  have hk6 : 0 ≤ k ∧ k < 6 := by omega
  have hR := (hv.W k (by omega) (by omega)).1
  refine lv_aload_n hx hb dX7_playerAt_0 rfl (lv_at hl 0 rfl) ?_
  refine lv_iload_n hx hb dX7_playerAt_1 rfl (lv_at hl 1 rfl) ?_
  refine k_callV (As := [.int (zi k)]) (rest := []) hX hl.1 (m_checkKiosk hI σ k hk (by omega)) (cwV 1 hts gX7_playerAt_X7_checkKiosk rfl rfl rfl (by decide +kernel) ⟨Nat.le_of_ble_eq_true rfl, Nat.le_of_ble_eq_true rfl⟩) (rc_KR hC hW) hW hS ⟨Nat.zero_le _, Nat.zero_le _⟩ rfl rfl (Nat.le_of_ble_eq_true rfl) dX7_playerAt_2 (fun H locs hW hS _ _ => ?_)
  refine lv_aload_n hx hb dX7_playerAt_5 rfl (lv_at hl 0 rfl) ?_
  refine cg_KR_kiosks hC hW hin_X7 hl_17 dX7_playerAt_6 ?_
  refine lv_iload_n hx hb dX7_playerAt_9 rfl (lv_at hl 1 rfl) ?_
  refine ca_kiosks hC hW (by omega) dX7_playerAt_10 ?_
  refine cg_Kiosk_playing hC hW hin_X1 hl_161 (by omega) dX7_playerAt_11 ?_
  refine lv_astore_n (lv' := [(3, .ref (ad 18 k)), (0, .ref (ad 0 0)), (1, .int (zi k)), (2, .int (zi j))]) hx hb dX7_playerAt_14 rfl hl (by decide) rfl (fun ls hl => ?_)
  refine lv_iload_n hx hb dX7_playerAt_15 rfl (lv_at hl 3 rfl) ?_
  refine k_if_lt (tgt := 27) hC dX7_playerAt_16 (by decide) (by omega) (fun c1 => ?_) (fun c1 => ?_)
  · exact k_throwN (rest := []) (text := "no such player") hX rfl hno hl.1 hfl (by decide +kernel) (by decide +kernel) (by decide +kernel) (by decide +kernel) (by decide +kernel) (by decide +kernel) (by decide +kernel) hW hS dX7_playerAt_27 dX7_playerAt_30 dX7_playerAt_31 dX7_playerAt_33 dX7_playerAt_36 ⟨Nat.le_of_ble_eq_true rfl, Nat.le_of_ble_eq_true rfl, Nat.le_of_ble_eq_true rfl, Nat.le_of_ble_eq_true rfl⟩
  · refine lv_iload_n hx hb dX7_playerAt_19 rfl (lv_at hl 3 rfl) ?_
    refine lv_aload_n hx hb dX7_playerAt_20 rfl (lv_at hl 0 rfl) ?_
    refine cg_Row_size hC hW hin_X4 hl_164 (by omega) (v := σ 17 k 0) rfl dX7_playerAt_21 ?_
    refine k_icmp_lt (tgt := 37) hC dX7_playerAt_24 (by decide) (by omega) (fun c2 => absurd c2 (by omega)) (fun c2 => ?_)
    exact k_throwN (rest := []) (text := "no such player") hX rfl hno hl.1 hfl (by decide +kernel) (by decide +kernel) (by decide +kernel) (by decide +kernel) (by decide +kernel) (by decide +kernel) (by decide +kernel) hW hS dX7_playerAt_27 dX7_playerAt_30 dX7_playerAt_31 dX7_playerAt_33 dX7_playerAt_36 ⟨Nat.le_of_ble_eq_true rfl, Nat.le_of_ble_eq_true rfl, Nat.le_of_ble_eq_true rfl, Nat.le_of_ble_eq_true rfl⟩
set_option maxHeartbeats 4000000 in
set_option maxRecDepth 100000 in
theorem m_slide {l : Launch} {Dg : va_G} {cA : Nat → ClassId} {ad : Nat → Int → Nat} {oc : Nat → Nat} (hI : WI ccnt ad) {N M : Int} (σ : St) (k : Int) (hv : Inv N M σ) (hk : 0 ≤ k ∧ k < σ 27 0 0) (h1 : σ 15 k 0 ≠ -1) : GI l yX7_slide wsX7_slide ({ frames := 7, cells := 0, slots := 0, locals := 111 } : Room) Dg cA ccnt ad oc (cE cA ad σ) [.ref (ad 0 0), .int (zi k)] (σ 15 k 0) (cE cA ad σ) := by
  intro sz
  refine g_ent (cc := cX7_slide) (maxL := 3) (ret := (some .int)) (by decide) rfl hI (Nat.le_of_ble_eq_true rfl) ?_
  intro pgm env s₀ m₀ bel mth cod hX hW hS hsz ls hl
  subst hsz
  have hC := hX.1
  have hx := hC.1
  have hb := hC.2.1
  have hts := hC.2.2.2.1
  have hl : lv_has ls 3 [(0, .ref (ad 0 0)), (1, .int (zi k))] := hl
  have hin_X1 : ∀ w ∈ wsX10, w ∈ wsX7_slide := by decide +kernel
  have hin_X7 : ∀ w ∈ wsX70, w ∈ wsX7_slide := by decide +kernel
  have hl_17 := hts (.fieldLink RX7 17 "KioskReel" "kiosks" "[LKioskReel$Kiosk;") (by decide +kernel)
  have hl_198 := hts (.fieldLink RX7 198 "KioskReel$Kiosk" "lastSlide" "I") (by decide +kernel)
  have hA := hv.A
  unfold IvA at hA
  have hk6 : 0 ≤ k ∧ k < 6 := by omega
  obtain ⟨hK1, hK2, hK3, hK4, hK5, hK6, hK7, hK8⟩ := hv.K k hk6.1 hk6.2
  refine lv_aload_n hx hb dX7_slide_0 rfl (lv_at hl 0 rfl) ?_
  refine lv_iload_n hx hb dX7_slide_1 rfl (lv_at hl 1 rfl) ?_
  refine k_callV (As := [.int (zi k)]) (rest := []) hX hl.1 (m_checkKiosk hI σ k hk (by omega)) (cwV 1 hts gX7_slide_X7_checkKiosk rfl rfl rfl (by decide +kernel) ⟨Nat.le_of_ble_eq_true rfl, Nat.le_of_ble_eq_true rfl⟩) (rc_KR hC hW) hW hS ⟨Nat.zero_le _, Nat.zero_le _⟩ rfl rfl (Nat.le_of_ble_eq_true rfl) dX7_slide_2 (fun H locs hW hS _ _ => ?_)
  refine lv_aload_n hx hb dX7_slide_5 rfl (lv_at hl 0 rfl) ?_
  refine cg_KR_kiosks hC hW hin_X7 hl_17 dX7_slide_6 ?_
  refine lv_iload_n hx hb dX7_slide_9 rfl (lv_at hl 1 rfl) ?_
  refine ca_kiosks hC hW (by omega) dX7_slide_10 ?_
  refine cg_Kiosk_lastSlide hC hW hin_X1 hl_198 (by omega) (v := σ 15 k 0) rfl dX7_slide_11 ?_
  refine lv_istore_n (lv' := [(2, .int (zi (σ 15 k 0))), (0, .ref (ad 0 0)), (1, .int (zi k))]) hx hb dX7_slide_14 rfl hl (by decide) rfl (fun ls hl => ?_)
  refine lv_iload_n hx hb dX7_slide_15 rfl (lv_at hl 0 rfl) ?_
  refine k_iconst hC dX7_slide_16 ?_
  refine k_icmp_ne (tgt := 30) hC dX7_slide_17 (by decide) (by omega) (fun c1 => ?_) (fun c1 => absurd c1 (by omega))
  refine lv_iload_n hx hb dX7_slide_30 rfl (lv_at hl 0 rfl) ?_
  exact k_iret hX rfl hW hS dX7_slide_31
set_option maxHeartbeats 4000000 in
set_option maxRecDepth 100000 in
theorem m_slide_x {l : Launch} {Dg : va_G} {cA : Nat → ClassId} {ad : Nat → Int → Nat} {oc : Nat → Nat} (hI : WI ccnt ad) (hfl : l.stackTraces = false) {N M : Int} (σ : St) (k : Int) (hv : Inv N M σ) (h1 : ¬ (0 ≤ k ∧ k < σ 27 0 0)) (hxr : -2147483648 ≤ k ∧ k < 2147483648) : GX l yX7_slide wsX7_slide ({ frames := 7, cells := 1, slots := 6, locals := 111 } : Room) Dg cA ccnt ad oc (cE cA ad σ) [.ref (ad 0 0), .int (zi k)] "java/lang/IndexOutOfBoundsException" := by
  intro sz
  refine gx_ent (cc := cX7_slide) (maxL := 3) (ret := (some .int)) (by decide) rfl hI (Nat.le_of_ble_eq_true rfl) ?_
  intro pgm env s₀ m₀ bel mth cod hX hno hW hS hsz ls hl
  subst hsz
  have hC := hX.1
  have hx := hC.1
  have hb := hC.2.1
  have hts := hC.2.2.2.1
  have hl : lv_has ls 3 [(0, .ref (ad 0 0)), (1, .int (zi k))] := hl
  have hA := hv.A
  unfold IvA at hA
  refine lv_aload_n hx hb dX7_slide_0 rfl (lv_at hl 0 rfl) ?_
  refine lv_iload_n hx hb dX7_slide_1 rfl (lv_at hl 1 rfl) ?_
  exact k_callX (As := [.int (zi k)]) (rest := []) hX hno hl.1 (m_checkKiosk_x hI hfl σ k h1 (by omega) hxr) (cwV 1 hts gX7_slide_X7_checkKiosk rfl rfl rfl (by decide +kernel) ⟨Nat.le_of_ble_eq_true rfl, Nat.le_of_ble_eq_true rfl⟩) (rc_KR hC hW) hW hS ⟨Nat.le_of_ble_eq_true rfl, Nat.le_of_ble_eq_true rfl⟩ rfl rfl (Nat.le_of_ble_eq_true rfl) dX7_slide_2
set_option maxHeartbeats 4000000 in
set_option maxRecDepth 100000 in
theorem m_slide_n {l : Launch} {Dg : va_G} {cA : Nat → ClassId} {ad : Nat → Int → Nat} {oc : Nat → Nat} (hI : WI ccnt ad) (hfl : l.stackTraces = false) {N M : Int} (σ : St) (k : Int) (hv : Inv N M σ) (hk : 0 ≤ k ∧ k < σ 27 0 0) (h1 : σ 15 k 0 = -1) : GX l yX7_slide wsX7_slide ({ frames := 7, cells := 1, slots := 6, locals := 111 } : Room) Dg cA ccnt ad oc (cE cA ad σ) [.ref (ad 0 0), .int (zi k)] "java/util/NoSuchElementException" := by
  intro sz
  refine gx_ent (cc := cX7_slide) (maxL := 3) (ret := (some .int)) (by decide) rfl hI (Nat.le_of_ble_eq_true rfl) ?_
  intro pgm env s₀ m₀ bel mth cod hX hno hW hS hsz ls hl
  subst hsz
  have hC := hX.1
  have hx := hC.1
  have hb := hC.2.1
  have hts := hC.2.2.2.1
  have hl : lv_has ls 3 [(0, .ref (ad 0 0)), (1, .int (zi k))] := hl
  have hin_X1 : ∀ w ∈ wsX10, w ∈ wsX7_slide := by decide +kernel
  have hin_X7 : ∀ w ∈ wsX70, w ∈ wsX7_slide := by decide +kernel
  have hl_17 := hts (.fieldLink RX7 17 "KioskReel" "kiosks" "[LKioskReel$Kiosk;") (by decide +kernel)
  have hl_198 := hts (.fieldLink RX7 198 "KioskReel$Kiosk" "lastSlide" "I") (by decide +kernel)
  have hA := hv.A
  unfold IvA at hA
  have hk6 : 0 ≤ k ∧ k < 6 := by omega
  obtain ⟨hK1, hK2, hK3, hK4, hK5, hK6, hK7, hK8⟩ := hv.K k hk6.1 hk6.2
  refine lv_aload_n hx hb dX7_slide_0 rfl (lv_at hl 0 rfl) ?_
  refine lv_iload_n hx hb dX7_slide_1 rfl (lv_at hl 1 rfl) ?_
  refine k_callV (As := [.int (zi k)]) (rest := []) hX hl.1 (m_checkKiosk hI σ k hk (by omega)) (cwV 1 hts gX7_slide_X7_checkKiosk rfl rfl rfl (by decide +kernel) ⟨Nat.le_of_ble_eq_true rfl, Nat.le_of_ble_eq_true rfl⟩) (rc_KR hC hW) hW hS ⟨Nat.zero_le _, Nat.zero_le _⟩ rfl rfl (Nat.le_of_ble_eq_true rfl) dX7_slide_2 (fun H locs hW hS _ _ => ?_)
  refine lv_aload_n hx hb dX7_slide_5 rfl (lv_at hl 0 rfl) ?_
  refine cg_KR_kiosks hC hW hin_X7 hl_17 dX7_slide_6 ?_
  refine lv_iload_n hx hb dX7_slide_9 rfl (lv_at hl 1 rfl) ?_
  refine ca_kiosks hC hW (by omega) dX7_slide_10 ?_
  refine cg_Kiosk_lastSlide hC hW hin_X1 hl_198 (by omega) (v := σ 15 k 0) rfl dX7_slide_11 ?_
  refine lv_istore_n (lv' := [(2, .int (zi (σ 15 k 0))), (0, .ref (ad 0 0)), (1, .int (zi k))]) hx hb dX7_slide_14 rfl hl (by decide) rfl (fun ls hl => ?_)
  refine lv_iload_n hx hb dX7_slide_15 rfl (lv_at hl 0 rfl) ?_
  refine k_iconst hC dX7_slide_16 ?_
  refine k_icmp_ne (tgt := 30) hC dX7_slide_17 (by decide) (by omega) (fun c1 => absurd c1 (by omega)) (fun c1 => ?_)
  exact k_throwN (rest := []) (text := "no slide was shown") hX rfl hno hl.1 hfl (by decide +kernel) (by decide +kernel) (by decide +kernel) (by decide +kernel) (by decide +kernel) (by decide +kernel) (by decide +kernel) hW hS dX7_slide_20 dX7_slide_23 dX7_slide_24 dX7_slide_26 dX7_slide_29 ⟨Nat.le_of_ble_eq_true rfl, Nat.le_of_ble_eq_true rfl, Nat.le_of_ble_eq_true rfl, Nat.le_of_ble_eq_true rfl⟩
set_option maxHeartbeats 4000000 in
set_option maxRecDepth 100000 in
theorem m_done {l : Launch} {Dg : va_G} {cA : Nat → ClassId} {ad : Nat → Int → Nat} {oc : Nat → Nat} (hI : WI ccnt ad) (σ : St) : GL l yX7_done wsX7_done ({ frames := 0, cells := 0, slots := 0, locals := 0 } : Room) Dg cA ccnt ad oc (cE cA ad σ) [.ref (ad 0 0)] (σ 29 0 0) (cE cA ad σ) := by
  intro sz
  refine g_ent (cc := cX7_done) (maxL := 1) (ret := (some .long)) (by decide) rfl hI (Nat.le_of_ble_eq_true rfl) ?_
  intro pgm env s₀ m₀ bel mth cod hX hW hS hsz ls hl
  subst hsz
  have hC := hX.1
  have hx := hC.1
  have hb := hC.2.1
  have hts := hC.2.2.2.1
  have hl : lv_has ls 1 [(0, .ref (ad 0 0))] := hl
  have hin_X7 : ∀ w ∈ wsX70, w ∈ wsX7_done := by decide +kernel
  have hl_230 := hts (.fieldLink RX7 230 "KioskReel" "linesDone" "J") (by decide +kernel)
  refine lv_aload_n hx hb dX7_done_0 rfl (lv_at hl 0 rfl) ?_
  refine cg_KR_linesDone hC hW hin_X7 hl_230 (v := σ 29 0 0) rfl dX7_done_1 ?_
  exact k_lret hX rfl hW hS dX7_done_4
set_option maxHeartbeats 4000000 in
set_option maxRecDepth 100000 in
theorem m_holdersAreSound {l : Launch} {Dg : va_G} {cA : Nat → ClassId} {ad : Nat → Int → Nat} {oc : Nat → Nat} (hI : WI ccnt ad) {N M : Int} (σ : St) (hv : Inv N M σ) : GI l yX7_holdersAreSound wsX7_holdersAreSound ({ frames := 1, cells := 0, slots := 0, locals := 23 } : Room) Dg cA ccnt ad oc (cE cA ad σ) [.ref (ad 0 0)] 1 (cE cA ad σ) := by
  intro sz
  refine g_ent (cc := cX7_holdersAreSound) (maxL := 3) (ret := (some .boolean)) (by decide) rfl hI (Nat.le_of_ble_eq_true rfl) ?_
  intro pgm env s₀ m₀ bel mth cod hX hW hS hsz ls hl
  subst hsz
  have hC := hX.1
  have hx := hC.1
  have hb := hC.2.1
  have hts := hC.2.2.2.1
  have hl : lv_has ls 3 [(0, .ref (ad 0 0))] := hl
  have hin_X0 : ∀ w ∈ wsX00, w ∈ wsX7_holdersAreSound := by decide +kernel
  have hin_X3 : ∀ w ∈ wsX30, w ∈ wsX7_holdersAreSound := by decide +kernel
  have hin_X7 : ∀ w ∈ wsX70, w ∈ wsX7_holdersAreSound := by decide +kernel
  have hl_23 := hts (.fieldLink RX7 23 "KioskReel" "players" "[LKioskReel$Player;") (by decide +kernel)
  have hl_29 := hts (.fieldLink RX7 29 "KioskReel" "devices" "[LKioskReel$Device;") (by decide +kernel)
  have hl_107 := hts (.fieldLink RX7 107 "KioskReel$Player" "started" "Z") (by decide +kernel)
  have hl_131 := hts (.fieldLink RX7 131 "KioskReel$Device" "owner" "I") (by decide +kernel)
  refine k_iconst hC dX7_holdersAreSound_0 ?_
  refine lv_istore_n (lv' := [(1, .int (zi 0)), (0, .ref (ad 0 0))]) hx hb dX7_holdersAreSound_1 rfl hl (by decide) rfl (fun ls hl => ?_)
  have loop_2 : ∀ (fuel : Nat) (i : Int), 6 - i < (fuel : Int) → (0 ≤ i ∧ i ≤ 6) → ∀ (H : Heap) (locs : List Loc), WP Dg ccnt ad (cE cA ad σ) H → va_S (WA ccnt ad s₀.heap.size) s₀.heap H locs → ∀ ls : Array Slot, lv_has ls 3 [(1, .int (zi i)), (0, .ref (ad 0 0))] → W pgm l env ({ frames := 1, cells := 0, slots := 0, locals := 23 } : Room) s₀ m₀ ([.ref (ad 0 0)] : List Value).toArray bel mth cod H locs 0 0 (MQ bel (va_Qi (fun (rr : Int32) (_ : Unit) => rr = zi 1) (gB Dg ccnt ad (cE cA ad σ)) (WA ccnt ad s₀.heap.size)) ([.ref (ad 0 0)] : List Value).toArray s₀ 0 0 (WA ccnt ad s₀.heap.size)) (F0 m₀ 2 ls []) := by
    intro fuel
    induction fuel with
    | zero => intro i hn i1; exact absurd hn (by omega)
    | succ fuel ih_2 =>
      intro i hn i1 H locs hW hS ls hl
      refine lv_iload_n hx hb dX7_holdersAreSound_2 rfl (lv_at hl 0 rfl) ?_
      refine k_bipush hC dX7_holdersAreSound_3 (by decide) ?_
      refine k_icmp_ge (tgt := 52) hC dX7_holdersAreSound_5 (by decide) (by omega) (fun c1 => ?_) (fun c1 => ?_)
      · refine k_iconst hC dX7_holdersAreSound_52 ?_
        exact k_zret hX (by omega) rfl hW hS dX7_holdersAreSound_53
      · refine lv_aload_n hx hb dX7_holdersAreSound_8 rfl (lv_at hl 1 rfl) ?_
        refine cg_KR_devices hC hW hin_X7 hl_29 dX7_holdersAreSound_9 ?_
        refine lv_iload_n hx hb dX7_holdersAreSound_12 rfl (lv_at hl 0 rfl) ?_
        refine ca_devices hC hW (by omega) dX7_holdersAreSound_13 ?_
        obtain ⟨hO1, hO2⟩ := hv.O.1 i (by omega) (by omega)
        refine cg_Device_owner hC hW hin_X0 hl_131 (by omega) (v := σ 18 i 0) rfl dX7_holdersAreSound_14 ?_
        refine lv_istore_n (lv' := [(2, .int (zi (σ 18 i 0))), (1, .int (zi i)), (0, .ref (ad 0 0))]) hx hb dX7_holdersAreSound_17 rfl hl (by decide) rfl (fun ls hl => ?_)
        refine lv_iload_n hx hb dX7_holdersAreSound_18 rfl (lv_at hl 0 rfl) ?_
        refine k_iconst hC dX7_holdersAreSound_19 ?_
        refine k_icmp_eq (tgt := 46) hC dX7_holdersAreSound_20 (by decide) (by omega) (fun c2 => ?_) (fun c2 => ?_)
        · refine k_iinc (a := i) (lv' := [(1, .int (zi (i + 1))), (2, .int (zi (σ 18 i 0))), (0, .ref (ad 0 0))]) hC dX7_holdersAreSound_46 hl (k := 1) rfl (by decide) rfl (fun ls hl => ?_)
          refine lv_goto (tgt := 2) hx hb dX7_holdersAreSound_49 (by decide) ?_
          have hl := Eq.mp (congrArg (fun z : Int => lv_has ls 3 [(1, .int (zi z)), (2, .int (zi (σ 18 i 0))), (0, .ref (ad 0 0))]) (show (i + 1 : Int) = (i + 1) by omega)) hl
          exact ih_2 (i + 1) (by omega) (by omega) _ _ hW hS _ (lv_sub hl [0, 2] rfl)
        · have hO3 := hO2 (by omega)
          have hO4 := (hv.O.2 (σ 18 i 0) (by omega) (by omega) hO3).1
          have hO5 := held_rng σ (σ 18 i 0)
          refine lv_aload_n hx hb dX7_holdersAreSound_23 rfl (lv_at hl 2 rfl) ?_
          refine cg_KR_players hC hW hin_X7 hl_23 dX7_holdersAreSound_24 ?_
          refine lv_iload_n hx hb dX7_holdersAreSound_27 rfl (lv_at hl 0 rfl) ?_
          refine ca_players hC hW (by omega) dX7_holdersAreSound_28 ?_
          refine cg_Player_started hC hW hin_X3 hl_107 (by omega) (v := σ 6 (σ 18 i 0) 0) rfl dX7_holdersAreSound_29 ?_
          refine k_if_eq (tgt := 44) hC dX7_holdersAreSound_32 (by decide) (by omega) (fun c3 => absurd c3 (by omega)) (fun c3 => ?_)
          refine lv_aload_n hx hb dX7_holdersAreSound_35 rfl (lv_at hl 2 rfl) ?_
          refine lv_iload_n hx hb dX7_holdersAreSound_36 rfl (lv_at hl 0 rfl) ?_
          refine k_callI (As := [.int (zi (σ 18 i 0))]) (rest := []) hX hl.1 (m_devicesOf hI σ (σ 18 i 0) hv (by omega)) (cwV 1 hts gX7_holdersAreSound_X7_devicesOf rfl rfl rfl (by decide +kernel) ⟨Nat.le_of_ble_eq_true rfl, Nat.le_of_ble_eq_true rfl⟩) (rc_KR hC hW) hW hS ⟨Nat.zero_le _, Nat.zero_le _⟩ rfl rfl (Nat.le_of_ble_eq_true rfl) dX7_holdersAreSound_37 (fun H locs hW hS _ _ => ?_)
          refine k_iconst hC dX7_holdersAreSound_40 ?_
          refine k_icmp_le (tgt := 46) hC dX7_holdersAreSound_41 (by decide) (by omega) (fun c4 => ?_) (fun c4 => absurd c4 (by omega))
          refine k_iinc (a := i) (lv' := [(1, .int (zi (i + 1))), (2, .int (zi (σ 18 i 0))), (0, .ref (ad 0 0))]) hC dX7_holdersAreSound_46 hl (k := 1) rfl (by decide) rfl (fun ls hl => ?_)
          refine lv_goto (tgt := 2) hx hb dX7_holdersAreSound_49 (by decide) ?_
          have hl := Eq.mp (congrArg (fun z : Int => lv_has ls 3 [(1, .int (zi z)), (2, .int (zi (σ 18 i 0))), (0, .ref (ad 0 0))]) (show (i + 1 : Int) = (i + 1) by omega)) hl
          exact ih_2 (i + 1) (by omega) (by omega) _ _ hW hS _ (lv_sub hl [0, 2] rfl)
  exact loop_2 (Int.toNat (6 - 0) + 1) 0 (by omega) (by omega) _ _ hW hS _ (lv_sub hl [0, 1] rfl)
set_option maxHeartbeats 4000000 in
set_option maxRecDepth 100000 in
theorem m_queuesAreSound {l : Launch} {Dg : va_G} {cA : Nat → ClassId} {ad : Nat → Int → Nat} {oc : Nat → Nat} (hI : WI ccnt ad) {N M : Int} (σ : St) (hv : Inv N M σ) : GI l yX7_queuesAreSound wsX7_queuesAreSound ({ frames := 1, cells := 0, slots := 0, locals := 23 } : Room) Dg cA ccnt ad oc (cE cA ad σ) [.ref (ad 0 0)] 1 (cE cA ad σ) := by
  intro sz
  refine g_ent (cc := cX7_queuesAreSound) (maxL := 5) (ret := (some .boolean)) (by decide) rfl hI (Nat.le_of_ble_eq_true rfl) ?_
  intro pgm env s₀ m₀ bel mth cod hX hW hS hsz ls hl
  subst hsz
  have hC := hX.1
  have hx := hC.1
  have hb := hC.2.1
  have hts := hC.2.2.2.1
  have hl : lv_has ls 5 [(0, .ref (ad 0 0))] := hl
  have hin_X0 : ∀ w ∈ wsX00, w ∈ wsX7_queuesAreSound := by decide +kernel
  have hin_X3 : ∀ w ∈ wsX30, w ∈ wsX7_queuesAreSound := by decide +kernel
  have hin_X7 : ∀ w ∈ wsX70, w ∈ wsX7_queuesAreSound := by decide +kernel
  have hl_23 := hts (.fieldLink RX7 23 "KioskReel" "players" "[LKioskReel$Player;") (by decide +kernel)
  have hl_29 := hts (.fieldLink RX7 29 "KioskReel" "devices" "[LKioskReel$Device;") (by decide +kernel)
  have hl_107 := hts (.fieldLink RX7 107 "KioskReel$Player" "started" "Z") (by decide +kernel)
  have hl_137 := hts (.fieldLink RX7 137 "KioskReel$Device" "queue" "LKioskReel$PlayerRow;") (by decide +kernel)
  have hl_184 := hts (.fieldLink RX7 184 "KioskReel$Player" "awaitedDevice" "I") (by decide +kernel)
  refine k_iconst hC dX7_queuesAreSound_0 ?_
  refine lv_istore_n (lv' := [(1, .int (zi 0)), (0, .ref (ad 0 0))]) hx hb dX7_queuesAreSound_1 rfl hl (by decide) rfl (fun ls hl => ?_)
  have loop_2 : ∀ (fuel : Nat) (i : Int), 6 - i < (fuel : Int) → (0 ≤ i ∧ i ≤ 6) → ∀ (H : Heap) (locs : List Loc), WP Dg ccnt ad (cE cA ad σ) H → va_S (WA ccnt ad s₀.heap.size) s₀.heap H locs → ∀ ls : Array Slot, lv_has ls 5 [(1, .int (zi i)), (0, .ref (ad 0 0))] → W pgm l env ({ frames := 1, cells := 0, slots := 0, locals := 23 } : Room) s₀ m₀ ([.ref (ad 0 0)] : List Value).toArray bel mth cod H locs 0 0 (MQ bel (va_Qi (fun (rr : Int32) (_ : Unit) => rr = zi 1) (gB Dg ccnt ad (cE cA ad σ)) (WA ccnt ad s₀.heap.size)) ([.ref (ad 0 0)] : List Value).toArray s₀ 0 0 (WA ccnt ad s₀.heap.size)) (F0 m₀ 2 ls []) := by
    intro fuel
    induction fuel with
    | zero => intro i hn i1; exact absurd hn (by omega)
    | succ fuel ih_2 =>
      intro i hn i1 H locs hW hS ls hl
      refine lv_iload_n hx hb dX7_queuesAreSound_2 rfl (lv_at hl 0 rfl) ?_
      refine k_bipush hC dX7_queuesAreSound_3 (by decide) ?_
      refine k_icmp_ge (tgt := 103) hC dX7_queuesAreSound_5 (by decide) (by omega) (fun c1 => ?_) (fun c1 => ?_)
      · refine k_iconst hC dX7_queuesAreSound_103 ?_
        exact k_zret hX (by omega) rfl hW hS dX7_queuesAreSound_104
      · refine lv_aload_n hx hb dX7_queuesAreSound_8 rfl (lv_at hl 1 rfl) ?_
        refine cg_KR_players hC hW hin_X7 hl_23 dX7_queuesAreSound_9 ?_
        refine lv_iload_n hx hb dX7_queuesAreSound_12 rfl (lv_at hl 0 rfl) ?_
        refine ca_players hC hW (by omega) dX7_queuesAreSound_13 ?_
        have hS6 := hv.S i (by omega) (by omega)
        have hU := hv.U i (by omega) (by omega)
        refine cg_Player_started hC hW hin_X3 hl_107 (by omega) (v := σ 6 i 0) rfl dX7_queuesAreSound_14 ?_
        refine k_if_eq (tgt := 37) hC dX7_queuesAreSound_17 (by decide) (by omega) (fun c2 => ?_) (fun c2 => ?_)
        · refine k_iconst hC dX7_queuesAreSound_37 ?_
          refine lv_istore_n (lv' := [(2, .int (zi 0)), (1, .int (zi i)), (0, .ref (ad 0 0))]) hx hb dX7_queuesAreSound_38 rfl hl (by decide) rfl (fun ls hl => ?_)
          refine k_iconst hC dX7_queuesAreSound_39 ?_
          refine lv_istore_n (lv' := [(3, .int (zi 0)), (2, .int (zi 0)), (1, .int (zi i)), (0, .ref (ad 0 0))]) hx hb dX7_queuesAreSound_40 rfl hl (by decide) rfl (fun ls hl => ?_)
          have loop_41 : ∀ (fuel : Nat) (d : Int) (wt : Int), 6 - d < (fuel : Int) → (0 ≤ d ∧ d ≤ 6) → ((wt = 1 ∧ σ 6 i 0 = 1 ∧ σ 11 i 0 ≠ -1) ∨ (wt = 0 ∧ (σ 6 i 0 = 0 ∨ σ 11 i 0 = -1))) → ∀ (H : Heap) (locs : List Loc), WP Dg ccnt ad (cE cA ad σ) H → va_S (WA ccnt ad s₀.heap.size) s₀.heap H locs → ∀ ls : Array Slot, lv_has ls 5 [(3, .int (zi d)), (2, .int (zi wt)), (1, .int (zi i)), (0, .ref (ad 0 0))] → W pgm l env ({ frames := 1, cells := 0, slots := 0, locals := 23 } : Room) s₀ m₀ ([.ref (ad 0 0)] : List Value).toArray bel mth cod H locs 0 0 (MQ bel (va_Qi (fun (rr : Int32) (_ : Unit) => rr = zi 1) (gB Dg ccnt ad (cE cA ad σ)) (WA ccnt ad s₀.heap.size)) ([.ref (ad 0 0)] : List Value).toArray s₀ 0 0 (WA ccnt ad s₀.heap.size)) (F0 m₀ 41 ls []) := by
            intro fuel
            induction fuel with
            | zero => intro d wt hn j1 j2; exact absurd hn (by omega)
            | succ fuel ih_41 =>
              intro d wt hn j1 j2 H locs hW hS ls hl
              refine lv_iload_n hx hb dX7_queuesAreSound_41 rfl (lv_at hl 0 rfl) ?_
              refine k_bipush hC dX7_queuesAreSound_42 (by decide) ?_
              refine k_icmp_ge (tgt := 97) hC dX7_queuesAreSound_44 (by decide) (by omega) (fun c3 => ?_) (fun c3 => ?_)
              · refine k_iinc (a := i) (lv' := [(1, .int (zi (i + 1))), (3, .int (zi d)), (2, .int (zi wt)), (0, .ref (ad 0 0))]) hC dX7_queuesAreSound_97 hl (k := 2) rfl (by decide) rfl (fun ls hl => ?_)
                refine lv_goto (tgt := 2) hx hb dX7_queuesAreSound_100 (by decide) ?_
                have hl := Eq.mp (congrArg (fun z : Int => lv_has ls 5 [(1, .int (zi z)), (3, .int (zi d)), (2, .int (zi wt)), (0, .ref (ad 0 0))]) (show (i + 1 : Int) = (i + 1) by omega)) hl
                exact ih_2 (i + 1) (by omega) (by omega) _ _ hW hS _ (lv_sub hl [0, 3] rfl)
              · refine lv_iload_n hx hb dX7_queuesAreSound_47 rfl (lv_at hl 1 rfl) ?_
                refine k_if_eq (tgt := 68) hC dX7_queuesAreSound_48 (by decide) (by omega) (fun c4 => ?_) (fun c4 => ?_)
                · refine k_iconst hC dX7_queuesAreSound_68 ?_
                  refine lv_istore (lv' := [(4, .int (zi 0)), (3, .int (zi d)), (2, .int (zi wt)), (1, .int (zi i)), (0, .ref (ad 0 0))]) hx hb dX7_queuesAreSound_69 hl (by decide) rfl (fun ls hl => ?_)
                  refine lv_aload_n hx hb dX7_queuesAreSound_71 rfl (lv_at hl 4 rfl) ?_
                  refine cg_KR_devices hC hW hin_X7 hl_29 dX7_queuesAreSound_72 ?_
                  refine lv_iload_n hx hb dX7_queuesAreSound_75 rfl (lv_at hl 1 rfl) ?_
                  refine ca_devices hC hW (by omega) dX7_queuesAreSound_76 ?_
                  refine cg_Device_queue hC hW hin_X0 hl_137 (by omega) dX7_queuesAreSound_77 ?_
                  refine lv_iload_n hx hb dX7_queuesAreSound_80 rfl (lv_at hl 3 rfl) ?_
                  have ce := cnt_due hv (d := d) (q := i) (by omega) (by omega)
                  obtain ⟨w1, w2, w3⟩ := hv.W (6 + d) (by omega) (by omega)
                  refine k_callI (As := [.int (zi i)]) (rest := []) hX hl.1 (m_timesIn hI σ (6 + d) i (by omega) w1 (by omega) w2) (cwV 1 hts gX7_queuesAreSound_X4_timesIn rfl rfl rfl (by decide +kernel) ⟨Nat.le_of_ble_eq_true rfl, Nat.le_of_ble_eq_true rfl⟩) (rc_Row hC hW (by omega)) hW hS ⟨Nat.zero_le _, Nat.zero_le _⟩ rfl rfl (Nat.le_of_ble_eq_true rfl) dX7_queuesAreSound_81 (fun H locs hW hS _ _ => ?_)
                  refine lv_iload hx hb dX7_queuesAreSound_84 (lv_at hl 0 rfl) ?_
                  refine k_icmp_eq (tgt := 91) hC dX7_queuesAreSound_86 (by decide) (by omega) (fun c5 => ?_) (fun c5 => absurd c5 (by omega))
                  refine k_iinc (a := d) (lv' := [(3, .int (zi (d + 1))), (4, .int (zi 0)), (2, .int (zi wt)), (1, .int (zi i)), (0, .ref (ad 0 0))]) hC dX7_queuesAreSound_91 hl (k := 1) rfl (by decide) rfl (fun ls hl => ?_)
                  refine lv_goto (tgt := 41) hx hb dX7_queuesAreSound_94 (by decide) ?_
                  have hl := Eq.mp (congrArg (fun z : Int => lv_has ls 5 [(3, .int (zi z)), (4, .int (zi 0)), (2, .int (zi wt)), (1, .int (zi i)), (0, .ref (ad 0 0))]) (show (d + 1 : Int) = (d + 1) by omega)) hl
                  exact ih_41 (d + 1) wt (by omega) (by omega) (by omega) _ _ hW hS _ (lv_sub hl [0, 2, 3, 4] rfl)
                · refine lv_aload_n hx hb dX7_queuesAreSound_51 rfl (lv_at hl 3 rfl) ?_
                  refine cg_KR_players hC hW hin_X7 hl_23 dX7_queuesAreSound_52 ?_
                  refine lv_iload_n hx hb dX7_queuesAreSound_55 rfl (lv_at hl 2 rfl) ?_
                  refine ca_players hC hW (by omega) dX7_queuesAreSound_56 ?_
                  refine cg_Player_awaitedDevice hC hW hin_X3 hl_184 (by omega) (v := σ 11 i 0) rfl dX7_queuesAreSound_57 ?_
                  refine lv_iload_n hx hb dX7_queuesAreSound_60 rfl (lv_at hl 0 rfl) ?_
                  refine k_icmp_ne (tgt := 68) hC dX7_queuesAreSound_61 (by decide) (by omega) (fun c6 => ?_) (fun c6 => ?_)
                  · refine k_iconst hC dX7_queuesAreSound_68 ?_
                    refine lv_istore (lv' := [(4, .int (zi 0)), (3, .int (zi d)), (2, .int (zi wt)), (1, .int (zi i)), (0, .ref (ad 0 0))]) hx hb dX7_queuesAreSound_69 hl (by decide) rfl (fun ls hl => ?_)
                    refine lv_aload_n hx hb dX7_queuesAreSound_71 rfl (lv_at hl 4 rfl) ?_
                    refine cg_KR_devices hC hW hin_X7 hl_29 dX7_queuesAreSound_72 ?_
                    refine lv_iload_n hx hb dX7_queuesAreSound_75 rfl (lv_at hl 1 rfl) ?_
                    refine ca_devices hC hW (by omega) dX7_queuesAreSound_76 ?_
                    refine cg_Device_queue hC hW hin_X0 hl_137 (by omega) dX7_queuesAreSound_77 ?_
                    refine lv_iload_n hx hb dX7_queuesAreSound_80 rfl (lv_at hl 3 rfl) ?_
                    have ce := cnt_due hv (d := d) (q := i) (by omega) (by omega)
                    obtain ⟨w1, w2, w3⟩ := hv.W (6 + d) (by omega) (by omega)
                    refine k_callI (As := [.int (zi i)]) (rest := []) hX hl.1 (m_timesIn hI σ (6 + d) i (by omega) w1 (by omega) w2) (cwV 1 hts gX7_queuesAreSound_X4_timesIn rfl rfl rfl (by decide +kernel) ⟨Nat.le_of_ble_eq_true rfl, Nat.le_of_ble_eq_true rfl⟩) (rc_Row hC hW (by omega)) hW hS ⟨Nat.zero_le _, Nat.zero_le _⟩ rfl rfl (Nat.le_of_ble_eq_true rfl) dX7_queuesAreSound_81 (fun H locs hW hS _ _ => ?_)
                    refine lv_iload hx hb dX7_queuesAreSound_84 (lv_at hl 0 rfl) ?_
                    refine k_icmp_eq (tgt := 91) hC dX7_queuesAreSound_86 (by decide) (by omega) (fun c7 => ?_) (fun c7 => absurd c7 (by omega))
                    refine k_iinc (a := d) (lv' := [(3, .int (zi (d + 1))), (4, .int (zi 0)), (2, .int (zi wt)), (1, .int (zi i)), (0, .ref (ad 0 0))]) hC dX7_queuesAreSound_91 hl (k := 1) rfl (by decide) rfl (fun ls hl => ?_)
                    refine lv_goto (tgt := 41) hx hb dX7_queuesAreSound_94 (by decide) ?_
                    have hl := Eq.mp (congrArg (fun z : Int => lv_has ls 5 [(3, .int (zi z)), (4, .int (zi 0)), (2, .int (zi wt)), (1, .int (zi i)), (0, .ref (ad 0 0))]) (show (d + 1 : Int) = (d + 1) by omega)) hl
                    exact ih_41 (d + 1) wt (by omega) (by omega) (by omega) _ _ hW hS _ (lv_sub hl [0, 2, 3, 4] rfl)
                  · refine k_iconst hC dX7_queuesAreSound_64 ?_
                    refine lv_goto (tgt := 69) hx hb dX7_queuesAreSound_65 (by decide) ?_
                    refine lv_istore (lv' := [(4, .int (zi 1)), (3, .int (zi d)), (2, .int (zi wt)), (1, .int (zi i)), (0, .ref (ad 0 0))]) hx hb dX7_queuesAreSound_69 hl (by decide) rfl (fun ls hl => ?_)
                    refine lv_aload_n hx hb dX7_queuesAreSound_71 rfl (lv_at hl 4 rfl) ?_
                    refine cg_KR_devices hC hW hin_X7 hl_29 dX7_queuesAreSound_72 ?_
                    refine lv_iload_n hx hb dX7_queuesAreSound_75 rfl (lv_at hl 1 rfl) ?_
                    refine ca_devices hC hW (by omega) dX7_queuesAreSound_76 ?_
                    refine cg_Device_queue hC hW hin_X0 hl_137 (by omega) dX7_queuesAreSound_77 ?_
                    refine lv_iload_n hx hb dX7_queuesAreSound_80 rfl (lv_at hl 3 rfl) ?_
                    have ce := cnt_due hv (d := d) (q := i) (by omega) (by omega)
                    obtain ⟨w1, w2, w3⟩ := hv.W (6 + d) (by omega) (by omega)
                    refine k_callI (As := [.int (zi i)]) (rest := []) hX hl.1 (m_timesIn hI σ (6 + d) i (by omega) w1 (by omega) w2) (cwV 1 hts gX7_queuesAreSound_X4_timesIn rfl rfl rfl (by decide +kernel) ⟨Nat.le_of_ble_eq_true rfl, Nat.le_of_ble_eq_true rfl⟩) (rc_Row hC hW (by omega)) hW hS ⟨Nat.zero_le _, Nat.zero_le _⟩ rfl rfl (Nat.le_of_ble_eq_true rfl) dX7_queuesAreSound_81 (fun H locs hW hS _ _ => ?_)
                    refine lv_iload hx hb dX7_queuesAreSound_84 (lv_at hl 0 rfl) ?_
                    refine k_icmp_eq (tgt := 91) hC dX7_queuesAreSound_86 (by decide) (by omega) (fun c8 => ?_) (fun c8 => absurd c8 (by omega))
                    refine k_iinc (a := d) (lv' := [(3, .int (zi (d + 1))), (4, .int (zi 1)), (2, .int (zi wt)), (1, .int (zi i)), (0, .ref (ad 0 0))]) hC dX7_queuesAreSound_91 hl (k := 1) rfl (by decide) rfl (fun ls hl => ?_)
                    refine lv_goto (tgt := 41) hx hb dX7_queuesAreSound_94 (by decide) ?_
                    have hl := Eq.mp (congrArg (fun z : Int => lv_has ls 5 [(3, .int (zi z)), (4, .int (zi 1)), (2, .int (zi wt)), (1, .int (zi i)), (0, .ref (ad 0 0))]) (show (d + 1 : Int) = (d + 1) by omega)) hl
                    exact ih_41 (d + 1) wt (by omega) (by omega) (by omega) _ _ hW hS _ (lv_sub hl [0, 2, 3, 4] rfl)
          exact loop_41 (Int.toNat (6 - 0) + 1) 0 0 (by omega) (by omega) (by omega) _ _ hW hS _ (lv_sub hl [0, 1, 2, 3] rfl)
        · refine lv_aload_n hx hb dX7_queuesAreSound_20 rfl (lv_at hl 1 rfl) ?_
          refine cg_KR_players hC hW hin_X7 hl_23 dX7_queuesAreSound_21 ?_
          refine lv_iload_n hx hb dX7_queuesAreSound_24 rfl (lv_at hl 0 rfl) ?_
          refine ca_players hC hW (by omega) dX7_queuesAreSound_25 ?_
          refine cg_Player_awaitedDevice hC hW hin_X3 hl_184 (by omega) (v := σ 11 i 0) rfl dX7_queuesAreSound_26 ?_
          refine k_iconst hC dX7_queuesAreSound_29 ?_
          refine k_icmp_eq (tgt := 37) hC dX7_queuesAreSound_30 (by decide) (by omega) (fun c9 => ?_) (fun c9 => ?_)
          · refine k_iconst hC dX7_queuesAreSound_37 ?_
            refine lv_istore_n (lv' := [(2, .int (zi 0)), (1, .int (zi i)), (0, .ref (ad 0 0))]) hx hb dX7_queuesAreSound_38 rfl hl (by decide) rfl (fun ls hl => ?_)
            refine k_iconst hC dX7_queuesAreSound_39 ?_
            refine lv_istore_n (lv' := [(3, .int (zi 0)), (2, .int (zi 0)), (1, .int (zi i)), (0, .ref (ad 0 0))]) hx hb dX7_queuesAreSound_40 rfl hl (by decide) rfl (fun ls hl => ?_)
            have loop_41 : ∀ (fuel : Nat) (d : Int) (wt : Int), 6 - d < (fuel : Int) → (0 ≤ d ∧ d ≤ 6) → ((wt = 1 ∧ σ 6 i 0 = 1 ∧ σ 11 i 0 ≠ -1) ∨ (wt = 0 ∧ (σ 6 i 0 = 0 ∨ σ 11 i 0 = -1))) → ∀ (H : Heap) (locs : List Loc), WP Dg ccnt ad (cE cA ad σ) H → va_S (WA ccnt ad s₀.heap.size) s₀.heap H locs → ∀ ls : Array Slot, lv_has ls 5 [(3, .int (zi d)), (2, .int (zi wt)), (1, .int (zi i)), (0, .ref (ad 0 0))] → W pgm l env ({ frames := 1, cells := 0, slots := 0, locals := 23 } : Room) s₀ m₀ ([.ref (ad 0 0)] : List Value).toArray bel mth cod H locs 0 0 (MQ bel (va_Qi (fun (rr : Int32) (_ : Unit) => rr = zi 1) (gB Dg ccnt ad (cE cA ad σ)) (WA ccnt ad s₀.heap.size)) ([.ref (ad 0 0)] : List Value).toArray s₀ 0 0 (WA ccnt ad s₀.heap.size)) (F0 m₀ 41 ls []) := by
              intro fuel
              induction fuel with
              | zero => intro d wt hn j1 j2; exact absurd hn (by omega)
              | succ fuel ih_41 =>
                intro d wt hn j1 j2 H locs hW hS ls hl
                refine lv_iload_n hx hb dX7_queuesAreSound_41 rfl (lv_at hl 0 rfl) ?_
                refine k_bipush hC dX7_queuesAreSound_42 (by decide) ?_
                refine k_icmp_ge (tgt := 97) hC dX7_queuesAreSound_44 (by decide) (by omega) (fun c10 => ?_) (fun c10 => ?_)
                · refine k_iinc (a := i) (lv' := [(1, .int (zi (i + 1))), (3, .int (zi d)), (2, .int (zi wt)), (0, .ref (ad 0 0))]) hC dX7_queuesAreSound_97 hl (k := 2) rfl (by decide) rfl (fun ls hl => ?_)
                  refine lv_goto (tgt := 2) hx hb dX7_queuesAreSound_100 (by decide) ?_
                  have hl := Eq.mp (congrArg (fun z : Int => lv_has ls 5 [(1, .int (zi z)), (3, .int (zi d)), (2, .int (zi wt)), (0, .ref (ad 0 0))]) (show (i + 1 : Int) = (i + 1) by omega)) hl
                  exact ih_2 (i + 1) (by omega) (by omega) _ _ hW hS _ (lv_sub hl [0, 3] rfl)
                · refine lv_iload_n hx hb dX7_queuesAreSound_47 rfl (lv_at hl 1 rfl) ?_
                  refine k_if_eq (tgt := 68) hC dX7_queuesAreSound_48 (by decide) (by omega) (fun c11 => ?_) (fun c11 => ?_)
                  · refine k_iconst hC dX7_queuesAreSound_68 ?_
                    refine lv_istore (lv' := [(4, .int (zi 0)), (3, .int (zi d)), (2, .int (zi wt)), (1, .int (zi i)), (0, .ref (ad 0 0))]) hx hb dX7_queuesAreSound_69 hl (by decide) rfl (fun ls hl => ?_)
                    refine lv_aload_n hx hb dX7_queuesAreSound_71 rfl (lv_at hl 4 rfl) ?_
                    refine cg_KR_devices hC hW hin_X7 hl_29 dX7_queuesAreSound_72 ?_
                    refine lv_iload_n hx hb dX7_queuesAreSound_75 rfl (lv_at hl 1 rfl) ?_
                    refine ca_devices hC hW (by omega) dX7_queuesAreSound_76 ?_
                    refine cg_Device_queue hC hW hin_X0 hl_137 (by omega) dX7_queuesAreSound_77 ?_
                    refine lv_iload_n hx hb dX7_queuesAreSound_80 rfl (lv_at hl 3 rfl) ?_
                    have ce := cnt_due hv (d := d) (q := i) (by omega) (by omega)
                    obtain ⟨w1, w2, w3⟩ := hv.W (6 + d) (by omega) (by omega)
                    refine k_callI (As := [.int (zi i)]) (rest := []) hX hl.1 (m_timesIn hI σ (6 + d) i (by omega) w1 (by omega) w2) (cwV 1 hts gX7_queuesAreSound_X4_timesIn rfl rfl rfl (by decide +kernel) ⟨Nat.le_of_ble_eq_true rfl, Nat.le_of_ble_eq_true rfl⟩) (rc_Row hC hW (by omega)) hW hS ⟨Nat.zero_le _, Nat.zero_le _⟩ rfl rfl (Nat.le_of_ble_eq_true rfl) dX7_queuesAreSound_81 (fun H locs hW hS _ _ => ?_)
                    refine lv_iload hx hb dX7_queuesAreSound_84 (lv_at hl 0 rfl) ?_
                    refine k_icmp_eq (tgt := 91) hC dX7_queuesAreSound_86 (by decide) (by omega) (fun c12 => ?_) (fun c12 => absurd c12 (by omega))
                    refine k_iinc (a := d) (lv' := [(3, .int (zi (d + 1))), (4, .int (zi 0)), (2, .int (zi wt)), (1, .int (zi i)), (0, .ref (ad 0 0))]) hC dX7_queuesAreSound_91 hl (k := 1) rfl (by decide) rfl (fun ls hl => ?_)
                    refine lv_goto (tgt := 41) hx hb dX7_queuesAreSound_94 (by decide) ?_
                    have hl := Eq.mp (congrArg (fun z : Int => lv_has ls 5 [(3, .int (zi z)), (4, .int (zi 0)), (2, .int (zi wt)), (1, .int (zi i)), (0, .ref (ad 0 0))]) (show (d + 1 : Int) = (d + 1) by omega)) hl
                    exact ih_41 (d + 1) wt (by omega) (by omega) (by omega) _ _ hW hS _ (lv_sub hl [0, 2, 3, 4] rfl)
                  · refine lv_aload_n hx hb dX7_queuesAreSound_51 rfl (lv_at hl 3 rfl) ?_
                    refine cg_KR_players hC hW hin_X7 hl_23 dX7_queuesAreSound_52 ?_
                    refine lv_iload_n hx hb dX7_queuesAreSound_55 rfl (lv_at hl 2 rfl) ?_
                    refine ca_players hC hW (by omega) dX7_queuesAreSound_56 ?_
                    refine cg_Player_awaitedDevice hC hW hin_X3 hl_184 (by omega) (v := σ 11 i 0) rfl dX7_queuesAreSound_57 ?_
                    refine lv_iload_n hx hb dX7_queuesAreSound_60 rfl (lv_at hl 0 rfl) ?_
                    refine k_icmp_ne (tgt := 68) hC dX7_queuesAreSound_61 (by decide) (by omega) (fun c13 => ?_) (fun c13 => ?_)
                    · refine k_iconst hC dX7_queuesAreSound_68 ?_
                      refine lv_istore (lv' := [(4, .int (zi 0)), (3, .int (zi d)), (2, .int (zi wt)), (1, .int (zi i)), (0, .ref (ad 0 0))]) hx hb dX7_queuesAreSound_69 hl (by decide) rfl (fun ls hl => ?_)
                      refine lv_aload_n hx hb dX7_queuesAreSound_71 rfl (lv_at hl 4 rfl) ?_
                      refine cg_KR_devices hC hW hin_X7 hl_29 dX7_queuesAreSound_72 ?_
                      refine lv_iload_n hx hb dX7_queuesAreSound_75 rfl (lv_at hl 1 rfl) ?_
                      refine ca_devices hC hW (by omega) dX7_queuesAreSound_76 ?_
                      refine cg_Device_queue hC hW hin_X0 hl_137 (by omega) dX7_queuesAreSound_77 ?_
                      refine lv_iload_n hx hb dX7_queuesAreSound_80 rfl (lv_at hl 3 rfl) ?_
                      have ce := cnt_due hv (d := d) (q := i) (by omega) (by omega)
                      obtain ⟨w1, w2, w3⟩ := hv.W (6 + d) (by omega) (by omega)
                      refine k_callI (As := [.int (zi i)]) (rest := []) hX hl.1 (m_timesIn hI σ (6 + d) i (by omega) w1 (by omega) w2) (cwV 1 hts gX7_queuesAreSound_X4_timesIn rfl rfl rfl (by decide +kernel) ⟨Nat.le_of_ble_eq_true rfl, Nat.le_of_ble_eq_true rfl⟩) (rc_Row hC hW (by omega)) hW hS ⟨Nat.zero_le _, Nat.zero_le _⟩ rfl rfl (Nat.le_of_ble_eq_true rfl) dX7_queuesAreSound_81 (fun H locs hW hS _ _ => ?_)
                      refine lv_iload hx hb dX7_queuesAreSound_84 (lv_at hl 0 rfl) ?_
                      refine k_icmp_eq (tgt := 91) hC dX7_queuesAreSound_86 (by decide) (by omega) (fun c14 => ?_) (fun c14 => absurd c14 (by omega))
                      refine k_iinc (a := d) (lv' := [(3, .int (zi (d + 1))), (4, .int (zi 0)), (2, .int (zi wt)), (1, .int (zi i)), (0, .ref (ad 0 0))]) hC dX7_queuesAreSound_91 hl (k := 1) rfl (by decide) rfl (fun ls hl => ?_)
                      refine lv_goto (tgt := 41) hx hb dX7_queuesAreSound_94 (by decide) ?_
                      have hl := Eq.mp (congrArg (fun z : Int => lv_has ls 5 [(3, .int (zi z)), (4, .int (zi 0)), (2, .int (zi wt)), (1, .int (zi i)), (0, .ref (ad 0 0))]) (show (d + 1 : Int) = (d + 1) by omega)) hl
                      exact ih_41 (d + 1) wt (by omega) (by omega) (by omega) _ _ hW hS _ (lv_sub hl [0, 2, 3, 4] rfl)
                    · refine k_iconst hC dX7_queuesAreSound_64 ?_
                      refine lv_goto (tgt := 69) hx hb dX7_queuesAreSound_65 (by decide) ?_
                      refine lv_istore (lv' := [(4, .int (zi 1)), (3, .int (zi d)), (2, .int (zi wt)), (1, .int (zi i)), (0, .ref (ad 0 0))]) hx hb dX7_queuesAreSound_69 hl (by decide) rfl (fun ls hl => ?_)
                      refine lv_aload_n hx hb dX7_queuesAreSound_71 rfl (lv_at hl 4 rfl) ?_
                      refine cg_KR_devices hC hW hin_X7 hl_29 dX7_queuesAreSound_72 ?_
                      refine lv_iload_n hx hb dX7_queuesAreSound_75 rfl (lv_at hl 1 rfl) ?_
                      refine ca_devices hC hW (by omega) dX7_queuesAreSound_76 ?_
                      refine cg_Device_queue hC hW hin_X0 hl_137 (by omega) dX7_queuesAreSound_77 ?_
                      refine lv_iload_n hx hb dX7_queuesAreSound_80 rfl (lv_at hl 3 rfl) ?_
                      have ce := cnt_due hv (d := d) (q := i) (by omega) (by omega)
                      obtain ⟨w1, w2, w3⟩ := hv.W (6 + d) (by omega) (by omega)
                      refine k_callI (As := [.int (zi i)]) (rest := []) hX hl.1 (m_timesIn hI σ (6 + d) i (by omega) w1 (by omega) w2) (cwV 1 hts gX7_queuesAreSound_X4_timesIn rfl rfl rfl (by decide +kernel) ⟨Nat.le_of_ble_eq_true rfl, Nat.le_of_ble_eq_true rfl⟩) (rc_Row hC hW (by omega)) hW hS ⟨Nat.zero_le _, Nat.zero_le _⟩ rfl rfl (Nat.le_of_ble_eq_true rfl) dX7_queuesAreSound_81 (fun H locs hW hS _ _ => ?_)
                      refine lv_iload hx hb dX7_queuesAreSound_84 (lv_at hl 0 rfl) ?_
                      refine k_icmp_eq (tgt := 91) hC dX7_queuesAreSound_86 (by decide) (by omega) (fun c15 => ?_) (fun c15 => absurd c15 (by omega))
                      refine k_iinc (a := d) (lv' := [(3, .int (zi (d + 1))), (4, .int (zi 1)), (2, .int (zi wt)), (1, .int (zi i)), (0, .ref (ad 0 0))]) hC dX7_queuesAreSound_91 hl (k := 1) rfl (by decide) rfl (fun ls hl => ?_)
                      refine lv_goto (tgt := 41) hx hb dX7_queuesAreSound_94 (by decide) ?_
                      have hl := Eq.mp (congrArg (fun z : Int => lv_has ls 5 [(3, .int (zi z)), (4, .int (zi 1)), (2, .int (zi wt)), (1, .int (zi i)), (0, .ref (ad 0 0))]) (show (d + 1 : Int) = (d + 1) by omega)) hl
                      exact ih_41 (d + 1) wt (by omega) (by omega) (by omega) _ _ hW hS _ (lv_sub hl [0, 2, 3, 4] rfl)
            exact loop_41 (Int.toNat (6 - 0) + 1) 0 0 (by omega) (by omega) (by omega) _ _ hW hS _ (lv_sub hl [0, 1, 2, 3] rfl)
          · refine k_iconst hC dX7_queuesAreSound_33 ?_
            refine lv_goto (tgt := 38) hx hb dX7_queuesAreSound_34 (by decide) ?_
            refine lv_istore_n (lv' := [(2, .int (zi 1)), (1, .int (zi i)), (0, .ref (ad 0 0))]) hx hb dX7_queuesAreSound_38 rfl hl (by decide) rfl (fun ls hl => ?_)
            refine k_iconst hC dX7_queuesAreSound_39 ?_
            refine lv_istore_n (lv' := [(3, .int (zi 0)), (2, .int (zi 1)), (1, .int (zi i)), (0, .ref (ad 0 0))]) hx hb dX7_queuesAreSound_40 rfl hl (by decide) rfl (fun ls hl => ?_)
            have loop_41 : ∀ (fuel : Nat) (d : Int) (wt : Int), 6 - d < (fuel : Int) → (0 ≤ d ∧ d ≤ 6) → ((wt = 1 ∧ σ 6 i 0 = 1 ∧ σ 11 i 0 ≠ -1) ∨ (wt = 0 ∧ (σ 6 i 0 = 0 ∨ σ 11 i 0 = -1))) → ∀ (H : Heap) (locs : List Loc), WP Dg ccnt ad (cE cA ad σ) H → va_S (WA ccnt ad s₀.heap.size) s₀.heap H locs → ∀ ls : Array Slot, lv_has ls 5 [(3, .int (zi d)), (2, .int (zi wt)), (1, .int (zi i)), (0, .ref (ad 0 0))] → W pgm l env ({ frames := 1, cells := 0, slots := 0, locals := 23 } : Room) s₀ m₀ ([.ref (ad 0 0)] : List Value).toArray bel mth cod H locs 0 0 (MQ bel (va_Qi (fun (rr : Int32) (_ : Unit) => rr = zi 1) (gB Dg ccnt ad (cE cA ad σ)) (WA ccnt ad s₀.heap.size)) ([.ref (ad 0 0)] : List Value).toArray s₀ 0 0 (WA ccnt ad s₀.heap.size)) (F0 m₀ 41 ls []) := by
              intro fuel
              induction fuel with
              | zero => intro d wt hn j1 j2; exact absurd hn (by omega)
              | succ fuel ih_41 =>
                intro d wt hn j1 j2 H locs hW hS ls hl
                refine lv_iload_n hx hb dX7_queuesAreSound_41 rfl (lv_at hl 0 rfl) ?_
                refine k_bipush hC dX7_queuesAreSound_42 (by decide) ?_
                refine k_icmp_ge (tgt := 97) hC dX7_queuesAreSound_44 (by decide) (by omega) (fun c16 => ?_) (fun c16 => ?_)
                · refine k_iinc (a := i) (lv' := [(1, .int (zi (i + 1))), (3, .int (zi d)), (2, .int (zi wt)), (0, .ref (ad 0 0))]) hC dX7_queuesAreSound_97 hl (k := 2) rfl (by decide) rfl (fun ls hl => ?_)
                  refine lv_goto (tgt := 2) hx hb dX7_queuesAreSound_100 (by decide) ?_
                  have hl := Eq.mp (congrArg (fun z : Int => lv_has ls 5 [(1, .int (zi z)), (3, .int (zi d)), (2, .int (zi wt)), (0, .ref (ad 0 0))]) (show (i + 1 : Int) = (i + 1) by omega)) hl
                  exact ih_2 (i + 1) (by omega) (by omega) _ _ hW hS _ (lv_sub hl [0, 3] rfl)
                · refine lv_iload_n hx hb dX7_queuesAreSound_47 rfl (lv_at hl 1 rfl) ?_
                  refine k_if_eq (tgt := 68) hC dX7_queuesAreSound_48 (by decide) (by omega) (fun c17 => ?_) (fun c17 => ?_)
                  · refine k_iconst hC dX7_queuesAreSound_68 ?_
                    refine lv_istore (lv' := [(4, .int (zi 0)), (3, .int (zi d)), (2, .int (zi wt)), (1, .int (zi i)), (0, .ref (ad 0 0))]) hx hb dX7_queuesAreSound_69 hl (by decide) rfl (fun ls hl => ?_)
                    refine lv_aload_n hx hb dX7_queuesAreSound_71 rfl (lv_at hl 4 rfl) ?_
                    refine cg_KR_devices hC hW hin_X7 hl_29 dX7_queuesAreSound_72 ?_
                    refine lv_iload_n hx hb dX7_queuesAreSound_75 rfl (lv_at hl 1 rfl) ?_
                    refine ca_devices hC hW (by omega) dX7_queuesAreSound_76 ?_
                    refine cg_Device_queue hC hW hin_X0 hl_137 (by omega) dX7_queuesAreSound_77 ?_
                    refine lv_iload_n hx hb dX7_queuesAreSound_80 rfl (lv_at hl 3 rfl) ?_
                    have ce := cnt_due hv (d := d) (q := i) (by omega) (by omega)
                    obtain ⟨w1, w2, w3⟩ := hv.W (6 + d) (by omega) (by omega)
                    refine k_callI (As := [.int (zi i)]) (rest := []) hX hl.1 (m_timesIn hI σ (6 + d) i (by omega) w1 (by omega) w2) (cwV 1 hts gX7_queuesAreSound_X4_timesIn rfl rfl rfl (by decide +kernel) ⟨Nat.le_of_ble_eq_true rfl, Nat.le_of_ble_eq_true rfl⟩) (rc_Row hC hW (by omega)) hW hS ⟨Nat.zero_le _, Nat.zero_le _⟩ rfl rfl (Nat.le_of_ble_eq_true rfl) dX7_queuesAreSound_81 (fun H locs hW hS _ _ => ?_)
                    refine lv_iload hx hb dX7_queuesAreSound_84 (lv_at hl 0 rfl) ?_
                    refine k_icmp_eq (tgt := 91) hC dX7_queuesAreSound_86 (by decide) (by omega) (fun c18 => ?_) (fun c18 => absurd c18 (by omega))
                    refine k_iinc (a := d) (lv' := [(3, .int (zi (d + 1))), (4, .int (zi 0)), (2, .int (zi wt)), (1, .int (zi i)), (0, .ref (ad 0 0))]) hC dX7_queuesAreSound_91 hl (k := 1) rfl (by decide) rfl (fun ls hl => ?_)
                    refine lv_goto (tgt := 41) hx hb dX7_queuesAreSound_94 (by decide) ?_
                    have hl := Eq.mp (congrArg (fun z : Int => lv_has ls 5 [(3, .int (zi z)), (4, .int (zi 0)), (2, .int (zi wt)), (1, .int (zi i)), (0, .ref (ad 0 0))]) (show (d + 1 : Int) = (d + 1) by omega)) hl
                    exact ih_41 (d + 1) wt (by omega) (by omega) (by omega) _ _ hW hS _ (lv_sub hl [0, 2, 3, 4] rfl)
                  · refine lv_aload_n hx hb dX7_queuesAreSound_51 rfl (lv_at hl 3 rfl) ?_
                    refine cg_KR_players hC hW hin_X7 hl_23 dX7_queuesAreSound_52 ?_
                    refine lv_iload_n hx hb dX7_queuesAreSound_55 rfl (lv_at hl 2 rfl) ?_
                    refine ca_players hC hW (by omega) dX7_queuesAreSound_56 ?_
                    refine cg_Player_awaitedDevice hC hW hin_X3 hl_184 (by omega) (v := σ 11 i 0) rfl dX7_queuesAreSound_57 ?_
                    refine lv_iload_n hx hb dX7_queuesAreSound_60 rfl (lv_at hl 0 rfl) ?_
                    refine k_icmp_ne (tgt := 68) hC dX7_queuesAreSound_61 (by decide) (by omega) (fun c19 => ?_) (fun c19 => ?_)
                    · refine k_iconst hC dX7_queuesAreSound_68 ?_
                      refine lv_istore (lv' := [(4, .int (zi 0)), (3, .int (zi d)), (2, .int (zi wt)), (1, .int (zi i)), (0, .ref (ad 0 0))]) hx hb dX7_queuesAreSound_69 hl (by decide) rfl (fun ls hl => ?_)
                      refine lv_aload_n hx hb dX7_queuesAreSound_71 rfl (lv_at hl 4 rfl) ?_
                      refine cg_KR_devices hC hW hin_X7 hl_29 dX7_queuesAreSound_72 ?_
                      refine lv_iload_n hx hb dX7_queuesAreSound_75 rfl (lv_at hl 1 rfl) ?_
                      refine ca_devices hC hW (by omega) dX7_queuesAreSound_76 ?_
                      refine cg_Device_queue hC hW hin_X0 hl_137 (by omega) dX7_queuesAreSound_77 ?_
                      refine lv_iload_n hx hb dX7_queuesAreSound_80 rfl (lv_at hl 3 rfl) ?_
                      have ce := cnt_due hv (d := d) (q := i) (by omega) (by omega)
                      obtain ⟨w1, w2, w3⟩ := hv.W (6 + d) (by omega) (by omega)
                      refine k_callI (As := [.int (zi i)]) (rest := []) hX hl.1 (m_timesIn hI σ (6 + d) i (by omega) w1 (by omega) w2) (cwV 1 hts gX7_queuesAreSound_X4_timesIn rfl rfl rfl (by decide +kernel) ⟨Nat.le_of_ble_eq_true rfl, Nat.le_of_ble_eq_true rfl⟩) (rc_Row hC hW (by omega)) hW hS ⟨Nat.zero_le _, Nat.zero_le _⟩ rfl rfl (Nat.le_of_ble_eq_true rfl) dX7_queuesAreSound_81 (fun H locs hW hS _ _ => ?_)
                      refine lv_iload hx hb dX7_queuesAreSound_84 (lv_at hl 0 rfl) ?_
                      refine k_icmp_eq (tgt := 91) hC dX7_queuesAreSound_86 (by decide) (by omega) (fun c20 => ?_) (fun c20 => absurd c20 (by omega))
                      refine k_iinc (a := d) (lv' := [(3, .int (zi (d + 1))), (4, .int (zi 0)), (2, .int (zi wt)), (1, .int (zi i)), (0, .ref (ad 0 0))]) hC dX7_queuesAreSound_91 hl (k := 1) rfl (by decide) rfl (fun ls hl => ?_)
                      refine lv_goto (tgt := 41) hx hb dX7_queuesAreSound_94 (by decide) ?_
                      have hl := Eq.mp (congrArg (fun z : Int => lv_has ls 5 [(3, .int (zi z)), (4, .int (zi 0)), (2, .int (zi wt)), (1, .int (zi i)), (0, .ref (ad 0 0))]) (show (d + 1 : Int) = (d + 1) by omega)) hl
                      exact ih_41 (d + 1) wt (by omega) (by omega) (by omega) _ _ hW hS _ (lv_sub hl [0, 2, 3, 4] rfl)
                    · refine k_iconst hC dX7_queuesAreSound_64 ?_
                      refine lv_goto (tgt := 69) hx hb dX7_queuesAreSound_65 (by decide) ?_
                      refine lv_istore (lv' := [(4, .int (zi 1)), (3, .int (zi d)), (2, .int (zi wt)), (1, .int (zi i)), (0, .ref (ad 0 0))]) hx hb dX7_queuesAreSound_69 hl (by decide) rfl (fun ls hl => ?_)
                      refine lv_aload_n hx hb dX7_queuesAreSound_71 rfl (lv_at hl 4 rfl) ?_
                      refine cg_KR_devices hC hW hin_X7 hl_29 dX7_queuesAreSound_72 ?_
                      refine lv_iload_n hx hb dX7_queuesAreSound_75 rfl (lv_at hl 1 rfl) ?_
                      refine ca_devices hC hW (by omega) dX7_queuesAreSound_76 ?_
                      refine cg_Device_queue hC hW hin_X0 hl_137 (by omega) dX7_queuesAreSound_77 ?_
                      refine lv_iload_n hx hb dX7_queuesAreSound_80 rfl (lv_at hl 3 rfl) ?_
                      have ce := cnt_due hv (d := d) (q := i) (by omega) (by omega)
                      obtain ⟨w1, w2, w3⟩ := hv.W (6 + d) (by omega) (by omega)
                      refine k_callI (As := [.int (zi i)]) (rest := []) hX hl.1 (m_timesIn hI σ (6 + d) i (by omega) w1 (by omega) w2) (cwV 1 hts gX7_queuesAreSound_X4_timesIn rfl rfl rfl (by decide +kernel) ⟨Nat.le_of_ble_eq_true rfl, Nat.le_of_ble_eq_true rfl⟩) (rc_Row hC hW (by omega)) hW hS ⟨Nat.zero_le _, Nat.zero_le _⟩ rfl rfl (Nat.le_of_ble_eq_true rfl) dX7_queuesAreSound_81 (fun H locs hW hS _ _ => ?_)
                      refine lv_iload hx hb dX7_queuesAreSound_84 (lv_at hl 0 rfl) ?_
                      refine k_icmp_eq (tgt := 91) hC dX7_queuesAreSound_86 (by decide) (by omega) (fun c21 => ?_) (fun c21 => absurd c21 (by omega))
                      refine k_iinc (a := d) (lv' := [(3, .int (zi (d + 1))), (4, .int (zi 1)), (2, .int (zi wt)), (1, .int (zi i)), (0, .ref (ad 0 0))]) hC dX7_queuesAreSound_91 hl (k := 1) rfl (by decide) rfl (fun ls hl => ?_)
                      refine lv_goto (tgt := 41) hx hb dX7_queuesAreSound_94 (by decide) ?_
                      have hl := Eq.mp (congrArg (fun z : Int => lv_has ls 5 [(3, .int (zi z)), (4, .int (zi 1)), (2, .int (zi wt)), (1, .int (zi i)), (0, .ref (ad 0 0))]) (show (d + 1 : Int) = (d + 1) by omega)) hl
                      exact ih_41 (d + 1) wt (by omega) (by omega) (by omega) _ _ hW hS _ (lv_sub hl [0, 2, 3, 4] rfl)
            exact loop_41 (Int.toNat (6 - 0) + 1) 0 1 (by omega) (by omega) (by omega) _ _ hW hS _ (lv_sub hl [0, 1, 2, 3] rfl)
  exact loop_2 (Int.toNat (6 - 0) + 1) 0 (by omega) (by omega) _ _ hW hS _ (lv_sub hl [0, 1] rfl)
set_option maxHeartbeats 4000000 in
set_option maxRecDepth 100000 in
theorem m_visitorsAreSound {l : Launch} {Dg : va_G} {cA : Nat → ClassId} {ad : Nat → Int → Nat} {oc : Nat → Nat} (hI : WI ccnt ad) {N M : Int} (σ : St) (hv : Inv N M σ) (hN : N ≤ 1000000) : GI l yX7_visitorsAreSound wsX7_visitorsAreSound ({ frames := 0, cells := 0, slots := 0, locals := 0 } : Room) Dg cA ccnt ad oc (cE cA ad σ) [.ref (ad 0 0)] 1 (cE cA ad σ) := by
  intro sz
  refine g_ent (cc := cX7_visitorsAreSound) (maxL := 3) (ret := (some .boolean)) (by decide) rfl hI (Nat.le_of_ble_eq_true rfl) ?_
  intro pgm env s₀ m₀ bel mth cod hX hW hS hsz ls hl
  subst hsz
  have hC := hX.1
  have hx := hC.1
  have hb := hC.2.1
  have hts := hC.2.2.2.1
  have hl : lv_has ls 3 [(0, .ref (ad 0 0))] := hl
  have hin_X6 : ∀ w ∈ wsX60, w ∈ wsX7_visitorsAreSound := by decide +kernel
  have hin_X7 : ∀ w ∈ wsX70, w ∈ wsX7_visitorsAreSound := by decide +kernel
  have hl_35 := hts (.fieldLink RX7 35 "KioskReel" "visitors" "[LKioskReel$Visitor;") (by decide +kernel)
  have hl_208 := hts (.fieldLink RX7 208 "KioskReel" "visitorCount" "I") (by decide +kernel)
  have hl_224 := hts (.fieldLink RX7 224 "KioskReel$Visitor" "timesAsked" "[I") (by decide +kernel)
  have hl_227 := hts (.fieldLink RX7 227 "KioskReel$Visitor" "timesSeen" "[I") (by decide +kernel)
  have hA := hv.A
  unfold IvA at hA
  refine k_iconst hC dX7_visitorsAreSound_0 ?_
  refine lv_istore_n (lv' := [(1, .int (zi 0)), (0, .ref (ad 0 0))]) hx hb dX7_visitorsAreSound_1 rfl hl (by decide) rfl (fun ls hl => ?_)
  have loop_2 : ∀ (fuel : Nat) (i : Int), σ 28 0 0 - i < (fuel : Int) → (0 ≤ i ∧ i ≤ σ 28 0 0) → ∀ (H : Heap) (locs : List Loc), WP Dg ccnt ad (cE cA ad σ) H → va_S (WA ccnt ad s₀.heap.size) s₀.heap H locs → ∀ ls : Array Slot, lv_has ls 3 [(1, .int (zi i)), (0, .ref (ad 0 0))] → W pgm l env ({ frames := 0, cells := 0, slots := 0, locals := 0 } : Room) s₀ m₀ ([.ref (ad 0 0)] : List Value).toArray bel mth cod H locs 0 0 (MQ bel (va_Qi (fun (rr : Int32) (_ : Unit) => rr = zi 1) (gB Dg ccnt ad (cE cA ad σ)) (WA ccnt ad s₀.heap.size)) ([.ref (ad 0 0)] : List Value).toArray s₀ 0 0 (WA ccnt ad s₀.heap.size)) (F0 m₀ 2 ls []) := by
    intro fuel
    induction fuel with
    | zero => intro i hn i1; exact absurd hn (by omega)
    | succ fuel ih_2 =>
      intro i hn i1 H locs hW hS ls hl
      refine lv_iload_n hx hb dX7_visitorsAreSound_2 rfl (lv_at hl 0 rfl) ?_
      refine lv_aload_n hx hb dX7_visitorsAreSound_3 rfl (lv_at hl 1 rfl) ?_
      refine cg_KR_visitorCount hC hW hin_X7 hl_208 (v := σ 28 0 0) rfl dX7_visitorsAreSound_4 ?_
      refine k_icmp_ge (tgt := 59) hC dX7_visitorsAreSound_7 (by decide) (by omega) (fun c1 => ?_) (fun c1 => ?_)
      · refine k_iconst hC dX7_visitorsAreSound_59 ?_
        exact k_zret hX (by omega) rfl hW hS dX7_visitorsAreSound_60
      · refine k_iconst hC dX7_visitorsAreSound_10 ?_
        refine lv_istore_n (lv' := [(2, .int (zi 0)), (1, .int (zi i)), (0, .ref (ad 0 0))]) hx hb dX7_visitorsAreSound_11 rfl hl (by decide) rfl (fun ls hl => ?_)
        have loop_12 : ∀ (fuel : Nat) (n : Int), 100 - n < (fuel : Int) → (0 ≤ n ∧ n ≤ 100) → ∀ (H : Heap) (locs : List Loc), WP Dg ccnt ad (cE cA ad σ) H → va_S (WA ccnt ad s₀.heap.size) s₀.heap H locs → ∀ ls : Array Slot, lv_has ls 3 [(2, .int (zi n)), (1, .int (zi i)), (0, .ref (ad 0 0))] → W pgm l env ({ frames := 0, cells := 0, slots := 0, locals := 0 } : Room) s₀ m₀ ([.ref (ad 0 0)] : List Value).toArray bel mth cod H locs 0 0 (MQ bel (va_Qi (fun (rr : Int32) (_ : Unit) => rr = zi 1) (gB Dg ccnt ad (cE cA ad σ)) (WA ccnt ad s₀.heap.size)) ([.ref (ad 0 0)] : List Value).toArray s₀ 0 0 (WA ccnt ad s₀.heap.size)) (F0 m₀ 12 ls []) := by
          intro fuel
          induction fuel with
          | zero => intro n hn j1; exact absurd hn (by omega)
          | succ fuel ih_12 =>
            intro n hn j1 H locs hW hS ls hl
            refine lv_iload_n hx hb dX7_visitorsAreSound_12 rfl (lv_at hl 0 rfl) ?_
            refine k_bipush hC dX7_visitorsAreSound_13 (by decide) ?_
            refine k_icmp_ge (tgt := 53) hC dX7_visitorsAreSound_15 (by decide) (by omega) (fun c2 => ?_) (fun c2 => ?_)
            · refine k_iinc (a := i) (lv' := [(1, .int (zi (i + 1))), (2, .int (zi n)), (0, .ref (ad 0 0))]) hC dX7_visitorsAreSound_53 hl (k := 1) rfl (by decide) rfl (fun ls hl => ?_)
              refine lv_goto (tgt := 2) hx hb dX7_visitorsAreSound_56 (by decide) ?_
              have hl := Eq.mp (congrArg (fun z : Int => lv_has ls 3 [(1, .int (zi z)), (2, .int (zi n)), (0, .ref (ad 0 0))]) (show (i + 1 : Int) = (i + 1) by omega)) hl
              exact ih_2 (i + 1) (by omega) (by omega) _ _ hW hS _ (lv_sub hl [0, 2] rfl)
            · have v3 := (hv.V i (by omega) (by omega)).2 n (by omega) (by omega)
              refine lv_aload_n hx hb dX7_visitorsAreSound_18 rfl (lv_at hl 2 rfl) ?_
              refine cg_KR_visitors hC hW hin_X7 hl_35 dX7_visitorsAreSound_19 ?_
              refine lv_iload_n hx hb dX7_visitorsAreSound_22 rfl (lv_at hl 1 rfl) ?_
              refine ca_visitors hC hW (by omega) dX7_visitorsAreSound_23 ?_
              refine cg_Visitor_timesSeen hC hW hin_X6 hl_227 (by omega) dX7_visitorsAreSound_24 ?_
              refine lv_iload_n hx hb dX7_visitorsAreSound_27 rfl (lv_at hl 0 rfl) ?_
              refine ca_seen hC hW (by omega) (by omega) (v := σ 19 i n) rfl dX7_visitorsAreSound_28 ?_
              refine k_iconst hC dX7_visitorsAreSound_29 ?_
              refine lv_aload_n hx hb dX7_visitorsAreSound_30 rfl (lv_at hl 2 rfl) ?_
              refine cg_KR_visitors hC hW hin_X7 hl_35 dX7_visitorsAreSound_31 ?_
              refine lv_iload_n hx hb dX7_visitorsAreSound_34 rfl (lv_at hl 1 rfl) ?_
              refine ca_visitors hC hW (by omega) dX7_visitorsAreSound_35 ?_
              refine cg_Visitor_timesAsked hC hW hin_X6 hl_224 (by omega) dX7_visitorsAreSound_36 ?_
              refine lv_iload_n hx hb dX7_visitorsAreSound_39 rfl (lv_at hl 0 rfl) ?_
              refine ca_asked hC hW (by omega) (by omega) (v := σ 20 i n) rfl dX7_visitorsAreSound_40 ?_
              refine k_iadd hC dX7_visitorsAreSound_41 ?_
              refine k_icmp_le (tgt := 47) hC dX7_visitorsAreSound_42 (by decide) (by omega) (fun c3 => ?_) (fun c3 => absurd c3 (by omega))
              refine k_iinc (a := n) (lv' := [(2, .int (zi (n + 1))), (1, .int (zi i)), (0, .ref (ad 0 0))]) hC dX7_visitorsAreSound_47 hl (k := 0) rfl (by decide) rfl (fun ls hl => ?_)
              refine lv_goto (tgt := 12) hx hb dX7_visitorsAreSound_50 (by decide) ?_
              have hl := Eq.mp (congrArg (fun z : Int => lv_has ls 3 [(2, .int (zi z)), (1, .int (zi i)), (0, .ref (ad 0 0))]) (show (n + 1 : Int) = (n + 1) by omega)) hl
              exact ih_12 (n + 1) (by omega) (by omega) _ _ hW hS _ (lv_sub hl [0, 1, 2] rfl)
        exact loop_12 (Int.toNat (100 - 0) + 1) 0 (by omega) (by omega) _ _ hW hS _ (lv_sub hl [0, 1, 2] rfl)
  exact loop_2 (Int.toNat (σ 28 0 0 - 0) + 1) 0 (by omega) (by omega) _ _ hW hS _ (lv_sub hl [0, 1] rfl)
set_option maxHeartbeats 4000000 in
set_option maxRecDepth 100000 in
theorem m_isSound {l : Launch} {Dg : va_G} {cA : Nat → ClassId} {ad : Nat → Int → Nat} {oc : Nat → Nat} (hI : WI ccnt ad) {N M : Int} (σ : St) (hv : Inv N M σ) (hN : N ≤ 1000000) : GI l yX7_isSound wsX7_isSound ({ frames := 2, cells := 0, slots := 0, locals := 47 } : Room) Dg cA ccnt ad oc (cE cA ad σ) [.ref (ad 0 0)] 1 (cE cA ad σ) := by
  intro sz
  refine g_ent (cc := cX7_isSound) (maxL := 1) (ret := (some .boolean)) (by decide) rfl hI (Nat.le_of_ble_eq_true rfl) ?_
  intro pgm env s₀ m₀ bel mth cod hX hW hS hsz ls hl
  subst hsz
  have hC := hX.1
  have hx := hC.1
  have hb := hC.2.1
  have hts := hC.2.2.2.1
  have hl : lv_has ls 1 [(0, .ref (ad 0 0))] := hl
  refine lv_aload_n hx hb dX7_isSound_0 rfl (lv_at hl 0 rfl) ?_
  refine k_callI (As := []) (rest := []) hX hl.1 (m_holdersAreSound hI σ hv) (cwV 0 hts gX7_isSound_X7_holdersAreSound rfl rfl rfl (by decide +kernel) ⟨Nat.le_of_ble_eq_true rfl, Nat.le_of_ble_eq_true rfl⟩) (rc_KR hC hW) hW hS ⟨Nat.zero_le _, Nat.zero_le _⟩ rfl rfl (Nat.le_of_ble_eq_true rfl) dX7_isSound_1 (fun H locs hW hS _ _ => ?_)
  refine k_if_eq (tgt := 25) hC dX7_isSound_4 (by decide) (by omega) (fun c1 => absurd c1 (by omega)) (fun c1 => ?_)
  refine lv_aload_n hx hb dX7_isSound_7 rfl (lv_at hl 0 rfl) ?_
  refine k_callI (As := []) (rest := []) hX hl.1 (m_queuesAreSound hI σ hv) (cwV 0 hts gX7_isSound_X7_queuesAreSound rfl rfl rfl (by decide +kernel) ⟨Nat.le_of_ble_eq_true rfl, Nat.le_of_ble_eq_true rfl⟩) (rc_KR hC hW) hW hS ⟨Nat.zero_le _, Nat.zero_le _⟩ rfl rfl (Nat.le_of_ble_eq_true rfl) dX7_isSound_8 (fun H locs hW hS _ _ => ?_)
  refine k_if_eq (tgt := 25) hC dX7_isSound_11 (by decide) (by omega) (fun c2 => absurd c2 (by omega)) (fun c2 => ?_)
  refine lv_aload_n hx hb dX7_isSound_14 rfl (lv_at hl 0 rfl) ?_
  refine k_callI (As := []) (rest := []) hX hl.1 (m_visitorsAreSound hI σ hv hN) (cwV 0 hts gX7_isSound_X7_visitorsAreSound rfl rfl rfl (by decide +kernel) ⟨Nat.le_of_ble_eq_true rfl, Nat.le_of_ble_eq_true rfl⟩) (rc_KR hC hW) hW hS ⟨Nat.zero_le _, Nat.zero_le _⟩ rfl rfl (Nat.le_of_ble_eq_true rfl) dX7_isSound_15 (fun H locs hW hS _ _ => ?_)
  refine k_if_eq (tgt := 25) hC dX7_isSound_18 (by decide) (by omega) (fun c3 => absurd c3 (by omega)) (fun c3 => ?_)
  refine k_iconst hC dX7_isSound_21 ?_
  refine lv_goto (tgt := 26) hx hb dX7_isSound_22 (by decide) ?_
  exact k_zret hX (by omega) rfl hW hS dX7_isSound_26
end M5
