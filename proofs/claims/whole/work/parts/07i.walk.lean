section M10
set_option maxHeartbeats 1000000 in
set_option maxRecDepth 100000 in
theorem n_isNone0 {l : Launch} {Dg : va_G} {cA : Nat → ClassId} {ad : Nat → Int → Nat} {oc : Nat → Nat} (hI : WI mcnt ad) (σ : St) (k : Int) (hA : 0 ≤ σ 27 0 0 ∧ σ 27 0 0 ≤ 6) (hk : 0 ≤ k ∧ k < σ 27 0 0) (h6 : σ 6 k 0 = 1) : GI l yX8_isNone wsX8_isNone ({ frames := 2, cells := 0, slots := 0, locals := 43 } : Room) Dg cA mcnt ad oc (mE cA ad σ) [.ref (ad 0 0), .int (zi k)] 0 (mE cA ad (ups σ 31 0 0 0)) := by
  intro sz
  refine g_ent (cc := cX8_isNone) (maxL := 2) (ret := (some .boolean)) (by decide) rfl hI (Nat.le_of_ble_eq_true rfl) ?_
  intro pgm env s₀ m₀ bel mth cod hX hW hS hsz ls hl
  subst hsz
  have hC := hX.1
  have hx := hC.1
  have hb := hC.2.1
  have hts := hC.2.2.2.1
  have hl : lv_has ls 2 [(0, .ref (ad 0 0)), (1, .int (zi k))] := hl
  have hin_X8 : ∀ w ∈ wsX80, w ∈ wsX8_isNone := by decide +kernel
  have hl_34 := hts (.fieldLink RX8 34 "KioskReelModel" "hasPlayer" "[Z") (by decide +kernel)
  refine lv_aload_n hx hb dX8_isNone_0 rfl (lv_at hl 0 rfl) ?_
  refine lv_aload_n hx hb dX8_isNone_1 rfl (lv_at hl 0 rfl) ?_
  refine lv_iload_n hx hb dX8_isNone_2 rfl (lv_at hl 1 rfl) ?_
  refine k_callI (As := [.int (zi k)]) (rest := [.ref (ad 0 0)]) hX hl.1 (n_isKiosk hI σ k (by omega) (by omega)) (cwV 1 hts gX8_isNone_X8_isKiosk rfl rfl rfl (by decide +kernel) ⟨Nat.le_of_ble_eq_true rfl, Nat.le_of_ble_eq_true rfl⟩) (rc_M hC hW) hW hS ⟨Nat.zero_le _, Nat.zero_le _⟩ rfl rfl (Nat.le_of_ble_eq_true rfl) dX8_isNone_3 (fun H locs hW hS _ _ => ?_)
  refine k_if_ne (tgt := 13) hC dX8_isNone_6 (by decide) (by omega) (fun c1 => ?_) (fun c1 => absurd c1 (by omega))
  refine k_iconst hC dX8_isNone_13 ?_
  refine k_iconst hC dX8_isNone_14 ?_
  refine k_callI (As := [.int (zi 0), .int (zi 1)]) (rest := []) hX hl.1 (n_thr0 hI σ 1 (by omega)) (cwV 2 hts gX8_isNone_X8_isThrown rfl rfl rfl (by decide +kernel) ⟨Nat.le_of_ble_eq_true rfl, Nat.le_of_ble_eq_true rfl⟩) (rc_M hC hW) hW hS ⟨Nat.zero_le _, Nat.zero_le _⟩ rfl rfl (Nat.le_of_ble_eq_true rfl) dX8_isNone_15 (fun H locs hW hS _ _ => ?_)
  obtain ⟨σ1, hσ1⟩ : ∃ z, z = ups σ 31 0 0 0 := ⟨_, rfl⟩
  rw [← hσ1] at hW
  refine k_if_ne (tgt := 43) hC dX8_isNone_18 (by decide) (by omega) (fun c2 => absurd c2 (by omega)) (fun c2 => ?_)
  refine lv_aload_n hx hb dX8_isNone_21 rfl (lv_at hl 0 rfl) ?_
  refine lv_aload_n hx hb dX8_isNone_22 rfl (lv_at hl 0 rfl) ?_
  refine mg_hasPlayer hC hW hin_X8 hl_34 dX8_isNone_23 ?_
  refine lv_iload_n hx hb dX8_isNone_26 rfl (lv_at hl 1 rfl) ?_
  refine ma_hasPlayer hC hW (by omega) (v := σ 6 k 0) (by rw [hσ1, ups_t _ (by decide)]) dX8_isNone_27 ?_
  refine k_if_ne (tgt := 35) hC dX8_isNone_28 (by decide) (by omega) (fun c3 => ?_) (fun c3 => absurd c3 (by omega))
  refine k_iconst hC dX8_isNone_35 ?_
  refine k_iconst hC dX8_isNone_36 ?_
  refine k_callI (As := [.int (zi 0), .int (zi 2)]) (rest := []) hX hl.1 (n_thr0 hI σ1 2 (by omega)) (cwV 2 hts gX8_isNone_X8_isThrown rfl rfl rfl (by decide +kernel) ⟨Nat.le_of_ble_eq_true rfl, Nat.le_of_ble_eq_true rfl⟩) (rc_M hC hW) hW hS ⟨Nat.zero_le _, Nat.zero_le _⟩ rfl rfl (Nat.le_of_ble_eq_true rfl) dX8_isNone_37 (fun H locs hW hS _ _ => ?_)
  obtain ⟨σ2, hσ2⟩ : ∃ z, z = ups σ1 31 0 0 0 := ⟨_, rfl⟩
  rw [← hσ2] at hW
  refine k_if_eq (tgt := 47) hC dX8_isNone_40 (by decide) (by omega) (fun c4 => ?_) (fun c4 => absurd c4 (by omega))
  refine k_iconst hC dX8_isNone_47 ?_
  have hW : WP Dg mcnt ad (mE cA ad (ups σ 31 0 0 0)) _ := (sw hW (by first | (rw [hσ2, hσ1]; done) | (rw [hσ2, hσ1]; exact ups_ups _ _ _ _ _ _) | (rw [hσ2, hσ1, ups_ups, ups_ups]; done)))
  exact k_zret hX (by omega) rfl hW hS dX8_isNone_48
set_option maxHeartbeats 1000000 in
set_option maxRecDepth 100000 in
theorem n_isNone_x {l : Launch} {Dg : va_G} {cA : Nat → ClassId} {ad : Nat → Int → Nat} {oc : Nat → Nat} (hI : WI mcnt ad) (σ : St) (k : Int) (hA : 0 ≤ σ 27 0 0 ∧ σ 27 0 0 ≤ 6) (h1 : ¬ (0 ≤ k ∧ k < σ 27 0 0)) (hxr : -2147483648 ≤ k ∧ k < 2147483648) : GI l yX8_isNone wsX8_isNone ({ frames := 2, cells := 0, slots := 0, locals := 43 } : Room) Dg cA mcnt ad oc (mE cA ad σ) [.ref (ad 0 0), .int (zi k)] 1 (mE cA ad (ups σ 31 0 0 1)) := by
  intro sz
  refine g_ent (cc := cX8_isNone) (maxL := 2) (ret := (some .boolean)) (by decide) rfl hI (Nat.le_of_ble_eq_true rfl) ?_
  intro pgm env s₀ m₀ bel mth cod hX hW hS hsz ls hl
  subst hsz
  have hC := hX.1
  have hx := hC.1
  have hb := hC.2.1
  have hts := hC.2.2.2.1
  have hl : lv_has ls 2 [(0, .ref (ad 0 0)), (1, .int (zi k))] := hl
  refine lv_aload_n hx hb dX8_isNone_0 rfl (lv_at hl 0 rfl) ?_
  refine lv_aload_n hx hb dX8_isNone_1 rfl (lv_at hl 0 rfl) ?_
  refine lv_iload_n hx hb dX8_isNone_2 rfl (lv_at hl 1 rfl) ?_
  refine k_callI (As := [.int (zi k)]) (rest := [.ref (ad 0 0)]) hX hl.1 (n_isKiosk hI σ k (by omega) (by omega)) (cwV 1 hts gX8_isNone_X8_isKiosk rfl rfl rfl (by decide +kernel) ⟨Nat.le_of_ble_eq_true rfl, Nat.le_of_ble_eq_true rfl⟩) (rc_M hC hW) hW hS ⟨Nat.zero_le _, Nat.zero_le _⟩ rfl rfl (Nat.le_of_ble_eq_true rfl) dX8_isNone_3 (fun H locs hW hS _ _ => ?_)
  refine k_if_ne (tgt := 13) hC dX8_isNone_6 (by decide) (by omega) (fun c1 => absurd c1 (by omega)) (fun c1 => ?_)
  refine k_iconst hC dX8_isNone_9 ?_
  refine lv_goto (tgt := 14) hx hb dX8_isNone_10 (by decide) ?_
  refine k_iconst hC dX8_isNone_14 ?_
  refine k_callI (As := [.int (zi 1), .int (zi 1)]) (rest := []) hX hl.1 (n_thr1 hI σ 1 (by omega)) (cwV 2 hts gX8_isNone_X8_isThrown rfl rfl rfl (by decide +kernel) ⟨Nat.le_of_ble_eq_true rfl, Nat.le_of_ble_eq_true rfl⟩) (rc_M hC hW) hW hS ⟨Nat.zero_le _, Nat.zero_le _⟩ rfl rfl (Nat.le_of_ble_eq_true rfl) dX8_isNone_15 (fun H locs hW hS _ _ => ?_)
  obtain ⟨σ1, hσ1⟩ : ∃ z, z = ups σ 31 0 0 1 := ⟨_, rfl⟩
  rw [← hσ1] at hW
  refine k_if_ne (tgt := 43) hC dX8_isNone_18 (by decide) (by omega) (fun c2 => ?_) (fun c2 => absurd c2 (by omega))
  refine k_iconst hC dX8_isNone_43 ?_
  refine lv_goto (tgt := 48) hx hb dX8_isNone_44 (by decide) ?_
  have hW : WP Dg mcnt ad (mE cA ad (ups σ 31 0 0 1)) _ := (sw hW (by first | (rw [hσ1]; done) | (rw [hσ1]; exact ups_ups _ _ _ _ _ _) | (rw [hσ1, ups_ups, ups_ups]; done)))
  exact k_zret hX (by omega) rfl hW hS dX8_isNone_48
set_option maxHeartbeats 1000000 in
set_option maxRecDepth 100000 in
theorem n_isNone_n {l : Launch} {Dg : va_G} {cA : Nat → ClassId} {ad : Nat → Int → Nat} {oc : Nat → Nat} (hI : WI mcnt ad) (σ : St) (k : Int) (hA : 0 ≤ σ 27 0 0 ∧ σ 27 0 0 ≤ 6) (hk : 0 ≤ k ∧ k < σ 27 0 0) (h6 : σ 6 k 0 = 0) : GI l yX8_isNone wsX8_isNone ({ frames := 2, cells := 0, slots := 0, locals := 43 } : Room) Dg cA mcnt ad oc (mE cA ad σ) [.ref (ad 0 0), .int (zi k)] 1 (mE cA ad (ups σ 31 0 0 2)) := by
  intro sz
  refine g_ent (cc := cX8_isNone) (maxL := 2) (ret := (some .boolean)) (by decide) rfl hI (Nat.le_of_ble_eq_true rfl) ?_
  intro pgm env s₀ m₀ bel mth cod hX hW hS hsz ls hl
  subst hsz
  have hC := hX.1
  have hx := hC.1
  have hb := hC.2.1
  have hts := hC.2.2.2.1
  have hl : lv_has ls 2 [(0, .ref (ad 0 0)), (1, .int (zi k))] := hl
  have hin_X8 : ∀ w ∈ wsX80, w ∈ wsX8_isNone := by decide +kernel
  have hl_34 := hts (.fieldLink RX8 34 "KioskReelModel" "hasPlayer" "[Z") (by decide +kernel)
  refine lv_aload_n hx hb dX8_isNone_0 rfl (lv_at hl 0 rfl) ?_
  refine lv_aload_n hx hb dX8_isNone_1 rfl (lv_at hl 0 rfl) ?_
  refine lv_iload_n hx hb dX8_isNone_2 rfl (lv_at hl 1 rfl) ?_
  refine k_callI (As := [.int (zi k)]) (rest := [.ref (ad 0 0)]) hX hl.1 (n_isKiosk hI σ k (by omega) (by omega)) (cwV 1 hts gX8_isNone_X8_isKiosk rfl rfl rfl (by decide +kernel) ⟨Nat.le_of_ble_eq_true rfl, Nat.le_of_ble_eq_true rfl⟩) (rc_M hC hW) hW hS ⟨Nat.zero_le _, Nat.zero_le _⟩ rfl rfl (Nat.le_of_ble_eq_true rfl) dX8_isNone_3 (fun H locs hW hS _ _ => ?_)
  refine k_if_ne (tgt := 13) hC dX8_isNone_6 (by decide) (by omega) (fun c1 => ?_) (fun c1 => absurd c1 (by omega))
  refine k_iconst hC dX8_isNone_13 ?_
  refine k_iconst hC dX8_isNone_14 ?_
  refine k_callI (As := [.int (zi 0), .int (zi 1)]) (rest := []) hX hl.1 (n_thr0 hI σ 1 (by omega)) (cwV 2 hts gX8_isNone_X8_isThrown rfl rfl rfl (by decide +kernel) ⟨Nat.le_of_ble_eq_true rfl, Nat.le_of_ble_eq_true rfl⟩) (rc_M hC hW) hW hS ⟨Nat.zero_le _, Nat.zero_le _⟩ rfl rfl (Nat.le_of_ble_eq_true rfl) dX8_isNone_15 (fun H locs hW hS _ _ => ?_)
  obtain ⟨σ1, hσ1⟩ : ∃ z, z = ups σ 31 0 0 0 := ⟨_, rfl⟩
  rw [← hσ1] at hW
  refine k_if_ne (tgt := 43) hC dX8_isNone_18 (by decide) (by omega) (fun c2 => absurd c2 (by omega)) (fun c2 => ?_)
  refine lv_aload_n hx hb dX8_isNone_21 rfl (lv_at hl 0 rfl) ?_
  refine lv_aload_n hx hb dX8_isNone_22 rfl (lv_at hl 0 rfl) ?_
  refine mg_hasPlayer hC hW hin_X8 hl_34 dX8_isNone_23 ?_
  refine lv_iload_n hx hb dX8_isNone_26 rfl (lv_at hl 1 rfl) ?_
  refine ma_hasPlayer hC hW (by omega) (v := σ 6 k 0) (by rw [hσ1, ups_t _ (by decide)]) dX8_isNone_27 ?_
  refine k_if_ne (tgt := 35) hC dX8_isNone_28 (by decide) (by omega) (fun c3 => absurd c3 (by omega)) (fun c3 => ?_)
  refine k_iconst hC dX8_isNone_31 ?_
  refine lv_goto (tgt := 36) hx hb dX8_isNone_32 (by decide) ?_
  refine k_iconst hC dX8_isNone_36 ?_
  refine k_callI (As := [.int (zi 1), .int (zi 2)]) (rest := []) hX hl.1 (n_thr1 hI σ1 2 (by omega)) (cwV 2 hts gX8_isNone_X8_isThrown rfl rfl rfl (by decide +kernel) ⟨Nat.le_of_ble_eq_true rfl, Nat.le_of_ble_eq_true rfl⟩) (rc_M hC hW) hW hS ⟨Nat.zero_le _, Nat.zero_le _⟩ rfl rfl (Nat.le_of_ble_eq_true rfl) dX8_isNone_37 (fun H locs hW hS _ _ => ?_)
  obtain ⟨σ2, hσ2⟩ : ∃ z, z = ups σ1 31 0 0 2 := ⟨_, rfl⟩
  rw [← hσ2] at hW
  refine k_if_eq (tgt := 47) hC dX8_isNone_40 (by decide) (by omega) (fun c4 => absurd c4 (by omega)) (fun c4 => ?_)
  refine k_iconst hC dX8_isNone_43 ?_
  refine lv_goto (tgt := 48) hx hb dX8_isNone_44 (by decide) ?_
  have hW : WP Dg mcnt ad (mE cA ad (ups σ 31 0 0 2)) _ := (sw hW (by first | (rw [hσ2, hσ1]; done) | (rw [hσ2, hσ1]; exact ups_ups _ _ _ _ _ _) | (rw [hσ2, hσ1, ups_ups, ups_ups]; done)))
  exact k_zret hX (by omega) rfl hW hS dX8_isNone_48
set_option maxHeartbeats 1000000 in
set_option maxRecDepth 100000 in
theorem n_isNoVisitor0 {l : Launch} {Dg : va_G} {cA : Nat → ClassId} {ad : Nat → Int → Nat} {oc : Nat → Nat} (hI : WI mcnt ad) (σ : St) (v : Int) (hA : 0 ≤ σ 28 0 0 ∧ σ 28 0 0 ≤ 10) (hvi : 0 ≤ v ∧ v < σ 28 0 0) : GI l yX8_isNoVisitor wsX8_isNoVisitor ({ frames := 1, cells := 0, slots := 0, locals := 22 } : Room) Dg cA mcnt ad oc (mE cA ad σ) [.ref (ad 0 0), .int (zi v)] 0 (mE cA ad (ups σ 31 0 0 0)) := by
  intro sz
  refine g_ent (cc := cX8_isNoVisitor) (maxL := 2) (ret := (some .boolean)) (by decide) rfl hI (Nat.le_of_ble_eq_true rfl) ?_
  intro pgm env s₀ m₀ bel mth cod hX hW hS hsz ls hl
  subst hsz
  have hC := hX.1
  have hx := hC.1
  have hb := hC.2.1
  have hts := hC.2.2.2.1
  have hl : lv_has ls 2 [(0, .ref (ad 0 0)), (1, .int (zi v))] := hl
  have hin_X8 : ∀ w ∈ wsX80, w ∈ wsX8_isNoVisitor := by decide +kernel
  have hl_173 := hts (.fieldLink RX8 173 "KioskReelModel" "visitors" "I") (by decide +kernel)
  refine lv_aload_n hx hb dX8_isNoVisitor_0 rfl (lv_at hl 0 rfl) ?_
  refine lv_iload_n hx hb dX8_isNoVisitor_1 rfl (lv_at hl 1 rfl) ?_
  refine k_iconst hC dX8_isNoVisitor_2 ?_
  refine lv_aload_n hx hb dX8_isNoVisitor_3 rfl (lv_at hl 0 rfl) ?_
  refine mg_visitors_f hC hW hin_X8 hl_173 (v := σ 28 0 0) rfl dX8_isNoVisitor_4 ?_
  refine k_iconst hC dX8_isNoVisitor_7 ?_
  refine k_isub hC dX8_isNoVisitor_8 ?_
  refine k_callSI (As := [.int (zi v), .int (zi 0), .int (zi ((σ 28 0 0) - 1))]) (rest := [.ref (ad 0 0)]) hX hl.1 (n_isIn hI σ v 0 ((σ 28 0 0) - 1) (by omega) (by omega) (by omega)) (cwS 3 hts gX8_isNoVisitor_X8_isIn rfl rfl rfl (by decide +kernel) ⟨Nat.le_of_ble_eq_true rfl, Nat.le_of_ble_eq_true rfl⟩) hW hS ⟨Nat.zero_le _, Nat.zero_le _⟩ rfl rfl (Nat.le_of_ble_eq_true rfl) dX8_isNoVisitor_9 (fun H locs hW hS _ _ => ?_)
  refine k_if_ne (tgt := 19) hC dX8_isNoVisitor_12 (by decide) (by omega) (fun c1 => ?_) (fun c1 => absurd c1 (by omega))
  refine k_iconst hC dX8_isNoVisitor_19 ?_
  refine k_iconst hC dX8_isNoVisitor_20 ?_
  refine k_callI (As := [.int (zi 0), .int (zi 1)]) (rest := []) hX hl.1 (n_thr0 hI σ 1 (by omega)) (cwV 2 hts gX8_isNoVisitor_X8_isThrown rfl rfl rfl (by decide +kernel) ⟨Nat.le_of_ble_eq_true rfl, Nat.le_of_ble_eq_true rfl⟩) (rc_M hC hW) hW hS ⟨Nat.zero_le _, Nat.zero_le _⟩ rfl rfl (Nat.le_of_ble_eq_true rfl) dX8_isNoVisitor_21 (fun H locs hW hS _ _ => ?_)
  obtain ⟨σ1, hσ1⟩ : ∃ z, z = ups σ 31 0 0 0 := ⟨_, rfl⟩
  rw [← hσ1] at hW
  have hW : WP Dg mcnt ad (mE cA ad (ups σ 31 0 0 0)) _ := (sw hW (by first | (rw [hσ1]; done) | (rw [hσ1]; exact ups_ups _ _ _ _ _ _) | (rw [hσ1, ups_ups, ups_ups]; done)))
  exact k_zret hX (by omega) rfl hW hS dX8_isNoVisitor_24
set_option maxHeartbeats 1000000 in
set_option maxRecDepth 100000 in
theorem n_isNoVisitor_x {l : Launch} {Dg : va_G} {cA : Nat → ClassId} {ad : Nat → Int → Nat} {oc : Nat → Nat} (hI : WI mcnt ad) (σ : St) (v : Int) (hA : 0 ≤ σ 28 0 0 ∧ σ 28 0 0 ≤ 10) (h1 : ¬ (0 ≤ v ∧ v < σ 28 0 0)) (hxr : -2147483648 ≤ v ∧ v < 2147483648) : GI l yX8_isNoVisitor wsX8_isNoVisitor ({ frames := 1, cells := 0, slots := 0, locals := 22 } : Room) Dg cA mcnt ad oc (mE cA ad σ) [.ref (ad 0 0), .int (zi v)] 1 (mE cA ad (ups σ 31 0 0 1)) := by
  intro sz
  refine g_ent (cc := cX8_isNoVisitor) (maxL := 2) (ret := (some .boolean)) (by decide) rfl hI (Nat.le_of_ble_eq_true rfl) ?_
  intro pgm env s₀ m₀ bel mth cod hX hW hS hsz ls hl
  subst hsz
  have hC := hX.1
  have hx := hC.1
  have hb := hC.2.1
  have hts := hC.2.2.2.1
  have hl : lv_has ls 2 [(0, .ref (ad 0 0)), (1, .int (zi v))] := hl
  have hin_X8 : ∀ w ∈ wsX80, w ∈ wsX8_isNoVisitor := by decide +kernel
  have hl_173 := hts (.fieldLink RX8 173 "KioskReelModel" "visitors" "I") (by decide +kernel)
  refine lv_aload_n hx hb dX8_isNoVisitor_0 rfl (lv_at hl 0 rfl) ?_
  refine lv_iload_n hx hb dX8_isNoVisitor_1 rfl (lv_at hl 1 rfl) ?_
  refine k_iconst hC dX8_isNoVisitor_2 ?_
  refine lv_aload_n hx hb dX8_isNoVisitor_3 rfl (lv_at hl 0 rfl) ?_
  refine mg_visitors_f hC hW hin_X8 hl_173 (v := σ 28 0 0) rfl dX8_isNoVisitor_4 ?_
  refine k_iconst hC dX8_isNoVisitor_7 ?_
  refine k_isub hC dX8_isNoVisitor_8 ?_
  refine k_callSI (As := [.int (zi v), .int (zi 0), .int (zi ((σ 28 0 0) - 1))]) (rest := [.ref (ad 0 0)]) hX hl.1 (n_isIn hI σ v 0 ((σ 28 0 0) - 1) (by omega) (by omega) (by omega)) (cwS 3 hts gX8_isNoVisitor_X8_isIn rfl rfl rfl (by decide +kernel) ⟨Nat.le_of_ble_eq_true rfl, Nat.le_of_ble_eq_true rfl⟩) hW hS ⟨Nat.zero_le _, Nat.zero_le _⟩ rfl rfl (Nat.le_of_ble_eq_true rfl) dX8_isNoVisitor_9 (fun H locs hW hS _ _ => ?_)
  refine k_if_ne (tgt := 19) hC dX8_isNoVisitor_12 (by decide) (by omega) (fun c1 => absurd c1 (by omega)) (fun c1 => ?_)
  refine k_iconst hC dX8_isNoVisitor_15 ?_
  refine lv_goto (tgt := 20) hx hb dX8_isNoVisitor_16 (by decide) ?_
  refine k_iconst hC dX8_isNoVisitor_20 ?_
  refine k_callI (As := [.int (zi 1), .int (zi 1)]) (rest := []) hX hl.1 (n_thr1 hI σ 1 (by omega)) (cwV 2 hts gX8_isNoVisitor_X8_isThrown rfl rfl rfl (by decide +kernel) ⟨Nat.le_of_ble_eq_true rfl, Nat.le_of_ble_eq_true rfl⟩) (rc_M hC hW) hW hS ⟨Nat.zero_le _, Nat.zero_le _⟩ rfl rfl (Nat.le_of_ble_eq_true rfl) dX8_isNoVisitor_21 (fun H locs hW hS _ _ => ?_)
  obtain ⟨σ1, hσ1⟩ : ∃ z, z = ups σ 31 0 0 1 := ⟨_, rfl⟩
  rw [← hσ1] at hW
  have hW : WP Dg mcnt ad (mE cA ad (ups σ 31 0 0 1)) _ := (sw hW (by first | (rw [hσ1]; done) | (rw [hσ1]; exact ups_ups _ _ _ _ _ _) | (rw [hσ1, ups_ups, ups_ups]; done)))
  exact k_zret hX (by omega) rfl hW hS dX8_isNoVisitor_24
set_option maxHeartbeats 1000000 in
set_option maxRecDepth 100000 in
theorem n_start {l : Launch} {Dg : va_G} {cA : Nat → ClassId} {ad : Nat → Int → Nat} {oc : Nat → Nat} (hI : WI mcnt ad) {N M : Int} {τ : St} (σ : St) (k r : Int) (hτ : τ = ups σ 31 0 0 0) (hv : Inv N M τ) (hk : 0 ≤ k ∧ k < τ 27 0 0) (hr : 0 ≤ r ∧ r < τ 26 0 0) (h6 : τ 6 k 0 = 0) : GI l yX8_start wsX8_start ({ frames := 2, cells := 0, slots := 0, locals := 44 } : Room) Dg cA mcnt ad oc (mE cA ad σ) [.ref (ad 0 0), .int (zi k), .int (zi r)] (fStart τ k r 8 k 0) (mE cA ad (fStart τ k r)) := by
  intro sz
  refine g_ent (cc := cX8_start) (maxL := 3) (ret := (some .int)) (by decide) rfl hI (Nat.le_of_ble_eq_true rfl) ?_
  intro pgm env s₀ m₀ bel mth cod hX hW hS hsz ls hl
  subst hsz
  have hC := hX.1
  have hx := hC.1
  have hb := hC.2.1
  have hts := hC.2.2.2.1
  have hl : lv_has ls 3 [(0, .ref (ad 0 0)), (1, .int (zi k)), (2, .int (zi r))] := hl
  have hin_X8 : ∀ w ∈ wsX80, w ∈ wsX8_start := by decide +kernel
  have hl_34 := hts (.fieldLink RX8 34 "KioskReelModel" "hasPlayer" "[Z") (by decide +kernel)
  have hl_44 := hts (.fieldLink RX8 44 "KioskReelModel" "depth" "[I") (by decide +kernel)
  have hl_47 := hts (.fieldLink RX8 47 "KioskReelModel" "at" "[I") (by decide +kernel)
  have hl_50 := hts (.fieldLink RX8 50 "KioskReelModel" "counts" "[I") (by decide +kernel)
  have hl_53 := hts (.fieldLink RX8 53 "KioskReelModel" "ticks" "[I") (by decide +kernel)
  have hl_56 := hts (.fieldLink RX8 56 "KioskReelModel" "wanted" "[I") (by decide +kernel)
  have eσ : ∀ (t : Nat) (i j : Int), t ≠ 31 → σ t i j = τ t i j := fun t i j h => by rw [hτ, ups_t _ h]
  have e26 := eσ 26 0 0 (by decide)
  have e27 := eσ 27 0 0 (by decide)
  have e28 := eσ 28 0 0 (by decide)
  have hA := hv.A
  unfold IvA at hA
  have hk6 : 0 ≤ k ∧ k < 6 := by omega
  have hs := hv.S k hk6.1 hk6.2
  refine lv_aload_n hx hb dX8_start_0 rfl (lv_at hl 0 rfl) ?_
  refine lv_aload_n hx hb dX8_start_1 rfl (lv_at hl 0 rfl) ?_
  refine lv_iload_n hx hb dX8_start_2 rfl (lv_at hl 1 rfl) ?_
  refine k_callI (As := [.int (zi k)]) (rest := [.ref (ad 0 0)]) hX hl.1 (n_isKiosk hI σ k (by omega) (by omega)) (cwV 1 hts gX8_start_X8_isKiosk rfl rfl rfl (by decide +kernel) ⟨Nat.le_of_ble_eq_true rfl, Nat.le_of_ble_eq_true rfl⟩) (rc_M hC hW) hW hS ⟨Nat.zero_le _, Nat.zero_le _⟩ rfl rfl (Nat.le_of_ble_eq_true rfl) dX8_start_3 (fun H locs hW hS _ _ => ?_)
  refine k_if_eq (tgt := 17) hC dX8_start_6 (by decide) (by omega) (fun c1 => absurd c1 (by omega)) (fun c1 => ?_)
  refine lv_aload_n hx hb dX8_start_9 rfl (lv_at hl 0 rfl) ?_
  refine lv_iload_n hx hb dX8_start_10 rfl (lv_at hl 2 rfl) ?_
  refine k_callI (As := [.int (zi r)]) (rest := [.ref (ad 0 0)]) hX hl.1 (n_isList hI σ r (by omega) (by omega)) (cwV 1 hts gX8_start_X8_isList rfl rfl rfl (by decide +kernel) ⟨Nat.le_of_ble_eq_true rfl, Nat.le_of_ble_eq_true rfl⟩) (rc_M hC hW) hW hS ⟨Nat.zero_le _, Nat.zero_le _⟩ rfl rfl (Nat.le_of_ble_eq_true rfl) dX8_start_11 (fun H locs hW hS _ _ => ?_)
  refine k_if_ne (tgt := 21) hC dX8_start_14 (by decide) (by omega) (fun c2 => ?_) (fun c2 => absurd c2 (by omega))
  refine k_iconst hC dX8_start_21 ?_
  refine k_iconst hC dX8_start_22 ?_
  refine k_callI (As := [.int (zi 0), .int (zi 1)]) (rest := []) hX hl.1 (n_thr0 hI σ 1 (by omega)) (cwV 2 hts gX8_start_X8_isThrown rfl rfl rfl (by decide +kernel) ⟨Nat.le_of_ble_eq_true rfl, Nat.le_of_ble_eq_true rfl⟩) (rc_M hC hW) hW hS ⟨Nat.zero_le _, Nat.zero_le _⟩ rfl rfl (Nat.le_of_ble_eq_true rfl) dX8_start_23 (fun H locs hW hS _ _ => ?_)
  have hW : WP Dg mcnt ad (mE cA ad τ) _ := (sw hW hτ.symm)
  refine k_if_ne (tgt := 43) hC dX8_start_26 (by decide) (by omega) (fun c3 => absurd c3 (by omega)) (fun c3 => ?_)
  refine lv_aload_n hx hb dX8_start_29 rfl (lv_at hl 0 rfl) ?_
  refine lv_aload_n hx hb dX8_start_30 rfl (lv_at hl 0 rfl) ?_
  refine mg_hasPlayer hC hW hin_X8 hl_34 dX8_start_31 ?_
  refine lv_iload_n hx hb dX8_start_34 rfl (lv_at hl 1 rfl) ?_
  refine ma_hasPlayer hC hW (by omega) (v := τ 6 k 0) rfl dX8_start_35 ?_
  refine k_iconst hC dX8_start_36 ?_
  refine k_top1 (show (τ 6 k 0 : Int) = 0 from h6) ?_
  refine k_callI (As := [.int (zi 0), .int (zi 2)]) (rest := []) hX hl.1 (n_thr0 hI τ 2 (by omega)) (cwV 2 hts gX8_start_X8_isThrown rfl rfl rfl (by decide +kernel) ⟨Nat.le_of_ble_eq_true rfl, Nat.le_of_ble_eq_true rfl⟩) (rc_M hC hW) hW hS ⟨Nat.zero_le _, Nat.zero_le _⟩ rfl rfl (Nat.le_of_ble_eq_true rfl) dX8_start_37 (fun H locs hW hS _ _ => ?_)
  have hW : WP Dg mcnt ad (mE cA ad τ) _ := (sw hW (ups_id _ _ _ _ (by rw [hτ, ups_eq])))
  refine k_if_eq (tgt := 45) hC dX8_start_40 (by decide) (by omega) (fun c4 => ?_) (fun c4 => absurd c4 (by omega))
  refine lv_aload_n hx hb dX8_start_45 rfl (lv_at hl 0 rfl) ?_
  refine mg_hasPlayer hC hW hin_X8 hl_34 dX8_start_46 ?_
  refine lv_iload_n hx hb dX8_start_49 rfl (lv_at hl 1 rfl) ?_
  refine k_iconst hC dX8_start_50 ?_
  refine ms_hasPlayer hC hW (by omega) hS (by omega) dX8_start_51 (fun H locs hW hS => ?_)
  obtain ⟨σ1, hσ1⟩ : ∃ z, z = ups τ 6 k 0 1 := ⟨_, rfl⟩
  rw [← hσ1] at hW
  refine lv_aload_n hx hb dX8_start_52 rfl (lv_at hl 0 rfl) ?_
  refine mg_depth hC hW hin_X8 hl_44 dX8_start_53 ?_
  refine lv_iload_n hx hb dX8_start_56 rfl (lv_at hl 1 rfl) ?_
  refine k_iconst hC dX8_start_57 ?_
  refine ms_depth hC hW (by omega) hS dX8_start_58 (fun H locs hW hS => ?_)
  obtain ⟨σ2, hσ2⟩ : ∃ z, z = ups σ1 24 k 0 1 := ⟨_, rfl⟩
  rw [← hσ2] at hW
  refine lv_aload_n hx hb dX8_start_59 rfl (lv_at hl 0 rfl) ?_
  refine mg_counts hC hW hin_X8 hl_50 dX8_start_60 ?_
  refine lv_iload_n hx hb dX8_start_63 rfl (lv_at hl 1 rfl) ?_
  refine k_iconst hC dX8_start_64 ?_
  refine ms_counts hC hW (by omega) hS dX8_start_65 (fun H locs hW hS => ?_)
  obtain ⟨σ3, hσ3⟩ : ∃ z, z = ups σ2 9 k 0 0 := ⟨_, rfl⟩
  rw [← hσ3] at hW
  refine lv_aload_n hx hb dX8_start_66 rfl (lv_at hl 0 rfl) ?_
  refine mg_ticks hC hW hin_X8 hl_53 dX8_start_67 ?_
  refine lv_iload_n hx hb dX8_start_70 rfl (lv_at hl 1 rfl) ?_
  refine k_iconst hC dX8_start_71 ?_
  refine ms_ticks hC hW (by omega) hS dX8_start_72 (fun H locs hW hS => ?_)
  obtain ⟨σ4, hσ4⟩ : ∃ z, z = ups σ3 10 k 0 0 := ⟨_, rfl⟩
  rw [← hσ4] at hW
  refine lv_aload_n hx hb dX8_start_73 rfl (lv_at hl 0 rfl) ?_
  refine mg_wanted hC hW hin_X8 hl_56 dX8_start_74 ?_
  refine lv_iload_n hx hb dX8_start_77 rfl (lv_at hl 1 rfl) ?_
  refine k_iconst hC dX8_start_78 ?_
  refine ms_wanted hC hW (by omega) hS dX8_start_79 (fun H locs hW hS => ?_)
  obtain ⟨σ5, hσ5⟩ : ∃ z, z = ups σ4 25 k 0 (-1) := ⟨_, rfl⟩
  rw [← hσ5] at hW
  refine lv_aload_n hx hb dX8_start_80 rfl (lv_at hl 0 rfl) ?_
  refine lv_iload_n hx hb dX8_start_81 rfl (lv_at hl 2 rfl) ?_
  refine k_iconst hC dX8_start_82 ?_
  refine lv_iload_n hx hb dX8_start_83 rfl (lv_at hl 1 rfl) ?_
  refine k_imul hC dX8_start_84 ?_
  refine k_top0 (show (4 * k : Int) = 4 * k + 0 from by omega) ?_
  refine k_callV (As := [.int (zi r), .int (zi (4 * k + 0))]) (rest := []) hX hl.1 (n_copies hI σ5 r k 0 (by omega) hk6 (by omega) (by rw [hσ5, hσ4, hσ3, hσ2, hσ1]; simp (decide := true) only [ups_t]; exact (hv.R r (by omega) (by omega)).1)) (cwV 2 hts gX8_start_X8_copies rfl rfl rfl (by decide +kernel) ⟨Nat.le_of_ble_eq_true rfl, Nat.le_of_ble_eq_true rfl⟩) (rc_M hC hW) hW hS ⟨Nat.zero_le _, Nat.zero_le _⟩ rfl rfl (Nat.le_of_ble_eq_true rfl) dX8_start_85 (fun H locs hW hS _ _ => ?_)
  obtain ⟨σ6, hσ6⟩ : ∃ z, z = ups (ups (fCopy σ5 (8 + (4 * k + 0)) r) 4 k 0 0) 7 k 0 r := ⟨_, rfl⟩
  rw [← hσ6] at hW
  obtain ⟨σ7, hσ7⟩ : ∃ z, z = fBegin τ k r := ⟨_, rfl⟩
  have hW : WP Dg mcnt ad (mE cA ad σ7) _ := (by rw [hσ7]; exact startM_end (sw hW (by rw [hσ6, hσ5, hσ4, hσ3, hσ2, hσ1])))
  refine lv_aload_n hx hb dX8_start_88 rfl (lv_at hl 0 rfl) ?_
  have hB : Inv N M σ7 := by rw [hσ7]; exact Inv_fBegin hv hk6 (by omega) hr.2 h6
  have b8 : σ7 8 k 0 = -1 := by rw [hσ7, at1 (fBegin_T τ k r) (t := 8) (by decide)]; omega
  have b27 : σ7 27 0 0 = τ 27 0 0 := by rw [hσ7, at1 (fBegin_T τ k r) (t := 27) (by decide)]
  have hn := near_spec (σ := τ) (by omega) k
  refine lv_iload_n hx hb dX8_start_89 rfl (lv_at hl 1 rfl) ?_
  refine lv_aload_n hx hb dX8_start_90 rfl (lv_at hl 0 rfl) ?_
  refine lv_iload_n hx hb dX8_start_91 rfl (lv_at hl 1 rfl) ?_
  refine k_callI (As := [.int (zi k)]) (rest := [.int (zi k), .ref (ad 0 0)]) hX hl.1 (n_nearest hI σ7 k (by omega) (fun x a b => (hB.K x a b).2.1) (by omega)) (cwV 1 hts gX8_start_X8_nearest rfl rfl rfl (by decide +kernel) ⟨Nat.le_of_ble_eq_true rfl, Nat.le_of_ble_eq_true rfl⟩) (rc_M hC hW) hW hS ⟨Nat.zero_le _, Nat.zero_le _⟩ rfl rfl (Nat.le_of_ble_eq_true rfl) dX8_start_92 (fun H locs hW hS _ _ => ?_)
  refine k_top0 (show (near σ7 k : Int) = near τ k from (by rw [hσ7]; exact near_T (fBegin_T τ k r 13 (by decide)) (fBegin_T τ k r 27 (by decide)) k)) ?_
  refine k_callV (As := [.int (zi k), .int (zi (near τ k))]) (rest := []) hX hl.1 (n_comesTo hI σ7 k (near τ k) hk6 (by omega) (fun z => ⟨(hB.W (near τ k) (by omega) (by omega)).1.1, room_of hB hk6 (by omega) (by omega)⟩)) (cwV 2 hts gX8_start_X8_comesTo rfl rfl rfl (by decide +kernel) ⟨Nat.le_of_ble_eq_true rfl, Nat.le_of_ble_eq_true rfl⟩) (rc_M hC hW) hW hS ⟨Nat.zero_le _, Nat.zero_le _⟩ rfl rfl (Nat.le_of_ble_eq_true rfl) dX8_start_95 (fun H locs hW hS _ _ => ?_)
  obtain ⟨σ8, hσ8⟩ : ∃ z, z = fCome σ7 k (near τ k) := ⟨_, rfl⟩
  rw [← hσ8] at hW
  refine lv_aload_n hx hb dX8_start_98 rfl (lv_at hl 0 rfl) ?_
  refine mg_at hC hW hin_X8 hl_47 dX8_start_99 ?_
  refine lv_iload_n hx hb dX8_start_102 rfl (lv_at hl 1 rfl) ?_
  refine ma_at hC hW (by omega) (v := σ8 8 k 0) rfl dX8_start_103 ?_
  have hW : WP Dg mcnt ad (mE cA ad (fStart τ k r)) _ := (sw hW (by rw [hσ8, hσ7]; rfl))
  exact k_iret hX (by rw [hσ8, hσ7]; rfl) hW hS dX8_start_104
set_option maxHeartbeats 1000000 in
set_option maxRecDepth 100000 in
theorem n_start_x {l : Launch} {Dg : va_G} {cA : Nat → ClassId} {ad : Nat → Int → Nat} {oc : Nat → Nat} (hI : WI mcnt ad) {N M : Int} (σ : St) (k r : Int) (hv : Inv N M σ) (h1 : ¬ (0 ≤ k ∧ k < σ 27 0 0)) (hxr : -2147483648 ≤ k ∧ k < 2147483648) : GI l yX8_start wsX8_start ({ frames := 2, cells := 0, slots := 0, locals := 44 } : Room) Dg cA mcnt ad oc (mE cA ad σ) [.ref (ad 0 0), .int (zi k), .int (zi r)] 0 (mE cA ad (ups σ 31 0 0 1)) := by
  intro sz
  refine g_ent (cc := cX8_start) (maxL := 3) (ret := (some .int)) (by decide) rfl hI (Nat.le_of_ble_eq_true rfl) ?_
  intro pgm env s₀ m₀ bel mth cod hX hW hS hsz ls hl
  subst hsz
  have hC := hX.1
  have hx := hC.1
  have hb := hC.2.1
  have hts := hC.2.2.2.1
  have hl : lv_has ls 3 [(0, .ref (ad 0 0)), (1, .int (zi k)), (2, .int (zi r))] := hl
  have hA := hv.A
  unfold IvA at hA
  refine lv_aload_n hx hb dX8_start_0 rfl (lv_at hl 0 rfl) ?_
  refine lv_aload_n hx hb dX8_start_1 rfl (lv_at hl 0 rfl) ?_
  refine lv_iload_n hx hb dX8_start_2 rfl (lv_at hl 1 rfl) ?_
  refine k_callI (As := [.int (zi k)]) (rest := [.ref (ad 0 0)]) hX hl.1 (n_isKiosk hI σ k (by omega) (by omega)) (cwV 1 hts gX8_start_X8_isKiosk rfl rfl rfl (by decide +kernel) ⟨Nat.le_of_ble_eq_true rfl, Nat.le_of_ble_eq_true rfl⟩) (rc_M hC hW) hW hS ⟨Nat.zero_le _, Nat.zero_le _⟩ rfl rfl (Nat.le_of_ble_eq_true rfl) dX8_start_3 (fun H locs hW hS _ _ => ?_)
  refine k_if_eq (tgt := 17) hC dX8_start_6 (by decide) (by omega) (fun c1 => ?_) (fun c1 => absurd c1 (by omega))
  refine k_iconst hC dX8_start_17 ?_
  refine lv_goto (tgt := 22) hx hb dX8_start_18 (by decide) ?_
  refine k_iconst hC dX8_start_22 ?_
  refine k_callI (As := [.int (zi 1), .int (zi 1)]) (rest := []) hX hl.1 (n_thr1 hI σ 1 (by omega)) (cwV 2 hts gX8_start_X8_isThrown rfl rfl rfl (by decide +kernel) ⟨Nat.le_of_ble_eq_true rfl, Nat.le_of_ble_eq_true rfl⟩) (rc_M hC hW) hW hS ⟨Nat.zero_le _, Nat.zero_le _⟩ rfl rfl (Nat.le_of_ble_eq_true rfl) dX8_start_23 (fun H locs hW hS _ _ => ?_)
  obtain ⟨σ1, hσ1⟩ : ∃ z, z = ups σ 31 0 0 1 := ⟨_, rfl⟩
  rw [← hσ1] at hW
  refine k_if_ne (tgt := 43) hC dX8_start_26 (by decide) (by omega) (fun c2 => ?_) (fun c2 => absurd c2 (by omega))
  refine k_iconst hC dX8_start_43 ?_
  have hW : WP Dg mcnt ad (mE cA ad (ups σ 31 0 0 1)) _ := (sw hW (by first | (rw [hσ1]; done) | (rw [hσ1]; exact ups_ups _ _ _ _ _ _) | (rw [hσ1, ups_ups, ups_ups]; done)))
  exact k_iret hX rfl hW hS dX8_start_44
set_option maxHeartbeats 1000000 in
set_option maxRecDepth 100000 in
theorem n_start_y {l : Launch} {Dg : va_G} {cA : Nat → ClassId} {ad : Nat → Int → Nat} {oc : Nat → Nat} (hI : WI mcnt ad) {N M : Int} (σ : St) (k r : Int) (hv : Inv N M σ) (hk : 0 ≤ k ∧ k < σ 27 0 0) (h1 : ¬ (0 ≤ r ∧ r < σ 26 0 0)) (hxr : -2147483648 ≤ r ∧ r < 2147483648) : GI l yX8_start wsX8_start ({ frames := 2, cells := 0, slots := 0, locals := 44 } : Room) Dg cA mcnt ad oc (mE cA ad σ) [.ref (ad 0 0), .int (zi k), .int (zi r)] 0 (mE cA ad (ups σ 31 0 0 1)) := by
  intro sz
  refine g_ent (cc := cX8_start) (maxL := 3) (ret := (some .int)) (by decide) rfl hI (Nat.le_of_ble_eq_true rfl) ?_
  intro pgm env s₀ m₀ bel mth cod hX hW hS hsz ls hl
  subst hsz
  have hC := hX.1
  have hx := hC.1
  have hb := hC.2.1
  have hts := hC.2.2.2.1
  have hl : lv_has ls 3 [(0, .ref (ad 0 0)), (1, .int (zi k)), (2, .int (zi r))] := hl
  have hA := hv.A
  unfold IvA at hA
  refine lv_aload_n hx hb dX8_start_0 rfl (lv_at hl 0 rfl) ?_
  refine lv_aload_n hx hb dX8_start_1 rfl (lv_at hl 0 rfl) ?_
  refine lv_iload_n hx hb dX8_start_2 rfl (lv_at hl 1 rfl) ?_
  refine k_callI (As := [.int (zi k)]) (rest := [.ref (ad 0 0)]) hX hl.1 (n_isKiosk hI σ k (by omega) (by omega)) (cwV 1 hts gX8_start_X8_isKiosk rfl rfl rfl (by decide +kernel) ⟨Nat.le_of_ble_eq_true rfl, Nat.le_of_ble_eq_true rfl⟩) (rc_M hC hW) hW hS ⟨Nat.zero_le _, Nat.zero_le _⟩ rfl rfl (Nat.le_of_ble_eq_true rfl) dX8_start_3 (fun H locs hW hS _ _ => ?_)
  refine k_if_eq (tgt := 17) hC dX8_start_6 (by decide) (by omega) (fun c1 => absurd c1 (by omega)) (fun c1 => ?_)
  refine lv_aload_n hx hb dX8_start_9 rfl (lv_at hl 0 rfl) ?_
  refine lv_iload_n hx hb dX8_start_10 rfl (lv_at hl 2 rfl) ?_
  refine k_callI (As := [.int (zi r)]) (rest := [.ref (ad 0 0)]) hX hl.1 (n_isList hI σ r (by omega) (by omega)) (cwV 1 hts gX8_start_X8_isList rfl rfl rfl (by decide +kernel) ⟨Nat.le_of_ble_eq_true rfl, Nat.le_of_ble_eq_true rfl⟩) (rc_M hC hW) hW hS ⟨Nat.zero_le _, Nat.zero_le _⟩ rfl rfl (Nat.le_of_ble_eq_true rfl) dX8_start_11 (fun H locs hW hS _ _ => ?_)
  refine k_if_ne (tgt := 21) hC dX8_start_14 (by decide) (by omega) (fun c2 => absurd c2 (by omega)) (fun c2 => ?_)
  refine k_iconst hC dX8_start_17 ?_
  refine lv_goto (tgt := 22) hx hb dX8_start_18 (by decide) ?_
  refine k_iconst hC dX8_start_22 ?_
  refine k_callI (As := [.int (zi 1), .int (zi 1)]) (rest := []) hX hl.1 (n_thr1 hI σ 1 (by omega)) (cwV 2 hts gX8_start_X8_isThrown rfl rfl rfl (by decide +kernel) ⟨Nat.le_of_ble_eq_true rfl, Nat.le_of_ble_eq_true rfl⟩) (rc_M hC hW) hW hS ⟨Nat.zero_le _, Nat.zero_le _⟩ rfl rfl (Nat.le_of_ble_eq_true rfl) dX8_start_23 (fun H locs hW hS _ _ => ?_)
  obtain ⟨σ1, hσ1⟩ : ∃ z, z = ups σ 31 0 0 1 := ⟨_, rfl⟩
  rw [← hσ1] at hW
  refine k_if_ne (tgt := 43) hC dX8_start_26 (by decide) (by omega) (fun c3 => ?_) (fun c3 => absurd c3 (by omega))
  refine k_iconst hC dX8_start_43 ?_
  have hW : WP Dg mcnt ad (mE cA ad (ups σ 31 0 0 1)) _ := (sw hW (by first | (rw [hσ1]; done) | (rw [hσ1]; exact ups_ups _ _ _ _ _ _) | (rw [hσ1, ups_ups, ups_ups]; done)))
  exact k_iret hX rfl hW hS dX8_start_44
set_option maxHeartbeats 1000000 in
set_option maxRecDepth 100000 in
theorem n_start_s {l : Launch} {Dg : va_G} {cA : Nat → ClassId} {ad : Nat → Int → Nat} {oc : Nat → Nat} (hI : WI mcnt ad) {N M : Int} (σ : St) (k r : Int) (hv : Inv N M σ) (hk : 0 ≤ k ∧ k < σ 27 0 0) (hr : 0 ≤ r ∧ r < σ 26 0 0) (h6 : σ 6 k 0 = 1) : GI l yX8_start wsX8_start ({ frames := 2, cells := 0, slots := 0, locals := 44 } : Room) Dg cA mcnt ad oc (mE cA ad σ) [.ref (ad 0 0), .int (zi k), .int (zi r)] 0 (mE cA ad (ups σ 31 0 0 2)) := by
  intro sz
  refine g_ent (cc := cX8_start) (maxL := 3) (ret := (some .int)) (by decide) rfl hI (Nat.le_of_ble_eq_true rfl) ?_
  intro pgm env s₀ m₀ bel mth cod hX hW hS hsz ls hl
  subst hsz
  have hC := hX.1
  have hx := hC.1
  have hb := hC.2.1
  have hts := hC.2.2.2.1
  have hl : lv_has ls 3 [(0, .ref (ad 0 0)), (1, .int (zi k)), (2, .int (zi r))] := hl
  have hin_X8 : ∀ w ∈ wsX80, w ∈ wsX8_start := by decide +kernel
  have hl_34 := hts (.fieldLink RX8 34 "KioskReelModel" "hasPlayer" "[Z") (by decide +kernel)
  have hA := hv.A
  unfold IvA at hA
  refine lv_aload_n hx hb dX8_start_0 rfl (lv_at hl 0 rfl) ?_
  refine lv_aload_n hx hb dX8_start_1 rfl (lv_at hl 0 rfl) ?_
  refine lv_iload_n hx hb dX8_start_2 rfl (lv_at hl 1 rfl) ?_
  refine k_callI (As := [.int (zi k)]) (rest := [.ref (ad 0 0)]) hX hl.1 (n_isKiosk hI σ k (by omega) (by omega)) (cwV 1 hts gX8_start_X8_isKiosk rfl rfl rfl (by decide +kernel) ⟨Nat.le_of_ble_eq_true rfl, Nat.le_of_ble_eq_true rfl⟩) (rc_M hC hW) hW hS ⟨Nat.zero_le _, Nat.zero_le _⟩ rfl rfl (Nat.le_of_ble_eq_true rfl) dX8_start_3 (fun H locs hW hS _ _ => ?_)
  refine k_if_eq (tgt := 17) hC dX8_start_6 (by decide) (by omega) (fun c1 => absurd c1 (by omega)) (fun c1 => ?_)
  refine lv_aload_n hx hb dX8_start_9 rfl (lv_at hl 0 rfl) ?_
  refine lv_iload_n hx hb dX8_start_10 rfl (lv_at hl 2 rfl) ?_
  refine k_callI (As := [.int (zi r)]) (rest := [.ref (ad 0 0)]) hX hl.1 (n_isList hI σ r (by omega) (by omega)) (cwV 1 hts gX8_start_X8_isList rfl rfl rfl (by decide +kernel) ⟨Nat.le_of_ble_eq_true rfl, Nat.le_of_ble_eq_true rfl⟩) (rc_M hC hW) hW hS ⟨Nat.zero_le _, Nat.zero_le _⟩ rfl rfl (Nat.le_of_ble_eq_true rfl) dX8_start_11 (fun H locs hW hS _ _ => ?_)
  refine k_if_ne (tgt := 21) hC dX8_start_14 (by decide) (by omega) (fun c2 => ?_) (fun c2 => absurd c2 (by omega))
  refine k_iconst hC dX8_start_21 ?_
  refine k_iconst hC dX8_start_22 ?_
  refine k_callI (As := [.int (zi 0), .int (zi 1)]) (rest := []) hX hl.1 (n_thr0 hI σ 1 (by omega)) (cwV 2 hts gX8_start_X8_isThrown rfl rfl rfl (by decide +kernel) ⟨Nat.le_of_ble_eq_true rfl, Nat.le_of_ble_eq_true rfl⟩) (rc_M hC hW) hW hS ⟨Nat.zero_le _, Nat.zero_le _⟩ rfl rfl (Nat.le_of_ble_eq_true rfl) dX8_start_23 (fun H locs hW hS _ _ => ?_)
  obtain ⟨σ1, hσ1⟩ : ∃ z, z = ups σ 31 0 0 0 := ⟨_, rfl⟩
  rw [← hσ1] at hW
  refine k_if_ne (tgt := 43) hC dX8_start_26 (by decide) (by omega) (fun c3 => absurd c3 (by omega)) (fun c3 => ?_)
  refine lv_aload_n hx hb dX8_start_29 rfl (lv_at hl 0 rfl) ?_
  refine lv_aload_n hx hb dX8_start_30 rfl (lv_at hl 0 rfl) ?_
  refine mg_hasPlayer hC hW hin_X8 hl_34 dX8_start_31 ?_
  refine lv_iload_n hx hb dX8_start_34 rfl (lv_at hl 1 rfl) ?_
  refine ma_hasPlayer hC hW (by omega) (v := σ 6 k 0) (by rw [hσ1, ups_t _ (by decide)]) dX8_start_35 ?_
  refine k_iconst hC dX8_start_36 ?_
  refine k_top1 (show (σ 6 k 0 : Int) = 1 from h6) ?_
  refine k_callI (As := [.int (zi 1), .int (zi 2)]) (rest := []) hX hl.1 (n_thr1 hI σ1 2 (by omega)) (cwV 2 hts gX8_start_X8_isThrown rfl rfl rfl (by decide +kernel) ⟨Nat.le_of_ble_eq_true rfl, Nat.le_of_ble_eq_true rfl⟩) (rc_M hC hW) hW hS ⟨Nat.zero_le _, Nat.zero_le _⟩ rfl rfl (Nat.le_of_ble_eq_true rfl) dX8_start_37 (fun H locs hW hS _ _ => ?_)
  obtain ⟨σ2, hσ2⟩ : ∃ z, z = ups σ1 31 0 0 2 := ⟨_, rfl⟩
  rw [← hσ2] at hW
  refine k_if_eq (tgt := 45) hC dX8_start_40 (by decide) (by omega) (fun c4 => absurd c4 (by omega)) (fun c4 => ?_)
  refine k_iconst hC dX8_start_43 ?_
  have hW : WP Dg mcnt ad (mE cA ad (ups σ 31 0 0 2)) _ := (sw hW (by first | (rw [hσ2, hσ1]; done) | (rw [hσ2, hσ1]; exact ups_ups _ _ _ _ _ _) | (rw [hσ2, hσ1, ups_ups, ups_ups]; done)))
  exact k_iret hX rfl hW hS dX8_start_44
set_option maxHeartbeats 1000000 in
set_option maxRecDepth 100000 in
theorem n_stop {l : Launch} {Dg : va_G} {cA : Nat → ClassId} {ad : Nat → Int → Nat} {oc : Nat → Nat} (hI : WI mcnt ad) {N M : Int} {τ : St} (σ : St) (k : Int) (hτ : τ = ups σ 31 0 0 0) (hv : Inv N M τ) (hk : 0 ≤ k ∧ k < τ 27 0 0) (h6 : τ 6 k 0 = 1) : GI l yX8_stop wsX8_stop ({ frames := 3, cells := 0, slots := 0, locals := 64 } : Room) Dg cA mcnt ad oc (mE cA ad σ) [.ref (ad 0 0), .int (zi k)] (held τ k) (mE cA ad (fStop τ k)) := by
  intro sz
  refine g_ent (cc := cX8_stop) (maxL := 6) (ret := (some .int)) (by decide) rfl hI (Nat.le_of_ble_eq_true rfl) ?_
  intro pgm env s₀ m₀ bel mth cod hX hW hS hsz ls hl
  subst hsz
  have hC := hX.1
  have hx := hC.1
  have hb := hC.2.1
  have hts := hC.2.2.2.1
  have hl : lv_has ls 6 [(0, .ref (ad 0 0)), (1, .int (zi k))] := hl
  have hin_X8 : ∀ w ∈ wsX80, w ∈ wsX8_stop := by decide +kernel
  have hl_34 := hts (.fieldLink RX8 34 "KioskReelModel" "hasPlayer" "[Z") (by decide +kernel)
  have hl_47 := hts (.fieldLink RX8 47 "KioskReelModel" "at" "[I") (by decide +kernel)
  have hl_56 := hts (.fieldLink RX8 56 "KioskReelModel" "wanted" "[I") (by decide +kernel)
  have hl_71 := hts (.fieldLink RX8 71 "KioskReelModel" "holder" "[I") (by decide +kernel)
  have hl_74 := hts (.fieldLink RX8 74 "KioskReelModel" "queue" "[I") (by decide +kernel)
  have hl_77 := hts (.fieldLink RX8 77 "KioskReelModel" "queueMany" "[I") (by decide +kernel)
  have eσ : ∀ (t : Nat) (i j : Int), t ≠ 31 → σ t i j = τ t i j := fun t i j h => by rw [hτ, ups_t _ h]
  have e26 := eσ 26 0 0 (by decide)
  have e27 := eσ 27 0 0 (by decide)
  have e28 := eσ 28 0 0 (by decide)
  have hA := hv.A
  unfold IvA at hA
  have hk6 : 0 ≤ k ∧ k < 6 := by omega
  have hU := hv.U k hk6.1 hk6.2
  have hU2 := hU.2.2 h6
  have hh := held_rng τ k
  have hUn := Inv_fUnq hv hk6 h6
  have hU1 := fUnq_11 hv hk6 h6
  refine lv_aload_n hx hb dX8_stop_0 rfl (lv_at hl 0 rfl) ?_
  refine lv_iload_n hx hb dX8_stop_1 rfl (lv_at hl 1 rfl) ?_
  refine k_callI (As := [.int (zi k)]) (rest := []) hX hl.1 (n_isNone0 hI σ k (by omega) (by omega) (by rw [eσ 6 k 0 (by decide)]; exact h6)) (cwV 1 hts gX8_stop_X8_isNone rfl rfl rfl (by decide +kernel) ⟨Nat.le_of_ble_eq_true rfl, Nat.le_of_ble_eq_true rfl⟩) (rc_M hC hW) hW hS ⟨Nat.zero_le _, Nat.zero_le _⟩ rfl rfl (Nat.le_of_ble_eq_true rfl) dX8_stop_2 (fun H locs hW hS _ _ => ?_)
  have hW : WP Dg mcnt ad (mE cA ad τ) _ := (sw hW hτ.symm)
  refine k_if_eq (tgt := 10) hC dX8_stop_5 (by decide) (by omega) (fun c1 => ?_) (fun c1 => absurd c1 (by omega))
  refine lv_aload_n hx hb dX8_stop_10 rfl (lv_at hl 0 rfl) ?_
  refine lv_iload_n hx hb dX8_stop_11 rfl (lv_at hl 1 rfl) ?_
  refine k_callI (As := [.int (zi k)]) (rest := []) hX hl.1 (n_held hI τ k hv (by omega)) (cwV 1 hts gX8_stop_X8_held rfl rfl rfl (by decide +kernel) ⟨Nat.le_of_ble_eq_true rfl, Nat.le_of_ble_eq_true rfl⟩) (rc_M hC hW) hW hS ⟨Nat.zero_le _, Nat.zero_le _⟩ rfl rfl (Nat.le_of_ble_eq_true rfl) dX8_stop_12 (fun H locs hW hS _ _ => ?_)
  refine lv_istore_n (lv' := [(2, .int (zi (held τ k))), (0, .ref (ad 0 0)), (1, .int (zi k))]) hx hb dX8_stop_15 rfl hl (by decide) rfl (fun ls hl => ?_)
  refine lv_aload_n hx hb dX8_stop_16 rfl (lv_at hl 1 rfl) ?_
  refine mg_wanted hC hW hin_X8 hl_56 dX8_stop_17 ?_
  refine lv_iload_n hx hb dX8_stop_20 rfl (lv_at hl 2 rfl) ?_
  refine ma_wanted hC hW (by omega) (v := τ 25 k 0) rfl dX8_stop_21 ?_
  refine lv_istore_n (lv' := [(3, .int (zi (τ 25 k 0))), (2, .int (zi (held τ k))), (0, .ref (ad 0 0)), (1, .int (zi k))]) hx hb dX8_stop_22 rfl hl (by decide) rfl (fun ls hl => ?_)
  refine lv_iload_n hx hb dX8_stop_23 rfl (lv_at hl 0 rfl) ?_
  refine k_if_ge (tgt := 31) hC dX8_stop_24 (by decide) (by omega) (fun c2 => ?_) (fun c2 => ?_)
  · obtain ⟨y1, y2, y3⟩ := queue_in hv hk6 h6 (by omega)
    obtain ⟨x1, x2, x3, x4⟩ := idx_spec y3
    obtain ⟨w1, w2, w3⟩ := hv.W (6 + τ 25 k 0) (by omega) (by omega)
    refine lv_aload_n hx hb dX8_stop_31 rfl (lv_at hl 2 rfl) ?_
    refine mg_queueMany hC hW hin_X8 hl_77 dX8_stop_32 ?_
    refine lv_iload_n hx hb dX8_stop_35 rfl (lv_at hl 0 rfl) ?_
    refine ma_queueMany hC hW (by omega) (v := τ 17 (6 + (τ 25 k 0)) 0) rfl dX8_stop_36 ?_
    refine k_iconst hC dX8_stop_37 ?_
    refine k_isub hC dX8_stop_38 ?_
    refine lv_istore (lv' := [(4, .int (zi ((τ 17 (6 + (τ 25 k 0)) 0) - 1))), (3, .int (zi (τ 25 k 0))), (2, .int (zi (held τ k))), (0, .ref (ad 0 0)), (1, .int (zi k))]) hx hb dX8_stop_39 hl (by decide) rfl (fun ls hl => ?_)
    have loop_41 : ∀ (fuel : Nat) (i : Int), i + 1 < (fuel : Int) → (-1 ≤ i) → (i < τ 17 (6 + τ 25 k 0) 0) → ∀ (H : Heap) (locs : List Loc), WP Dg mcnt ad (mE cA ad (unM τ k i)) H → va_S (WA mcnt ad s₀.heap.size) s₀.heap H locs → ∀ ls : Array Slot, lv_has ls 6 [(4, .int (zi i)), (3, .int (zi (τ 25 k 0))), (2, .int (zi (held τ k))), (0, .ref (ad 0 0)), (1, .int (zi k))] → W pgm l env ({ frames := 3, cells := 0, slots := 0, locals := 64 } : Room) s₀ m₀ ([.ref (ad 0 0), .int (zi k)] : List Value).toArray bel mth cod H locs 0 0 (MQ bel (va_Qi (fun (rr : Int32) (_ : Unit) => rr = zi (held τ k)) (gB Dg mcnt ad (mE cA ad (fStop τ k))) (WA mcnt ad s₀.heap.size)) ([.ref (ad 0 0), .int (zi k)] : List Value).toArray s₀ 0 0 (WA mcnt ad s₀.heap.size)) (F0 m₀ 41 ls []) := by
      intro fuel
      induction fuel with
      | zero => intro i hn i1 i2; exact absurd hn (by omega)
      | succ fuel ih_41 =>
        intro i hn i1 i2 H locs hW hS ls hl
        obtain ⟨σ1, hσ1⟩ : ∃ z, z = unM τ k i := ⟨_, rfl⟩
        rw [← hσ1] at hW
        refine lv_iload hx hb dX8_stop_41 (lv_at hl 0 rfl) ?_
        refine k_if_lt (tgt := 81) hC dX8_stop_43 (by decide) (by omega) (fun c3 => ?_) (fun c3 => ?_)
        · obtain ⟨σ2, hσ2⟩ : ∃ z, z = fUnq τ k := ⟨_, rfl⟩
          have hW : WP Dg mcnt ad (mE cA ad σ2) _ := (by rw [hσ2]; exact unM_end (sw hW hσ1) (by omega) (by omega))
          refine k_iconst hC dX8_stop_81 ?_
          refine lv_istore (lv' := [(4, .int (zi 0)), (3, .int (zi (τ 25 k 0))), (2, .int (zi (held τ k))), (0, .ref (ad 0 0)), (1, .int (zi k))]) hx hb dX8_stop_82 hl (by decide) rfl (fun ls hl => ?_)
          have loop_84 : ∀ (fuel : Nat) (d : Int), 6 - d < (fuel : Int) → (0 ≤ d ∧ d ≤ 6) → ∀ (H : Heap) (locs : List Loc), WP Dg mcnt ad (mE cA ad (fFrees d.toNat (fUnq τ k) k)) H → va_S (WA mcnt ad s₀.heap.size) s₀.heap H locs → ∀ ls : Array Slot, lv_has ls 6 [(4, .int (zi d)), (2, .int (zi (held τ k))), (0, .ref (ad 0 0)), (1, .int (zi k))] → W pgm l env ({ frames := 3, cells := 0, slots := 0, locals := 64 } : Room) s₀ m₀ ([.ref (ad 0 0), .int (zi k)] : List Value).toArray bel mth cod H locs 0 0 (MQ bel (va_Qi (fun (rr : Int32) (_ : Unit) => rr = zi (held τ k)) (gB Dg mcnt ad (mE cA ad (fStop τ k))) (WA mcnt ad s₀.heap.size)) ([.ref (ad 0 0), .int (zi k)] : List Value).toArray s₀ 0 0 (WA mcnt ad s₀.heap.size)) (F0 m₀ 84 ls []) := by
            intro fuel
            induction fuel with
            | zero => intro d hn d1; exact absurd hn (by omega)
            | succ fuel ih_84 =>
              intro d hn d1 H locs hW hS ls hl
              obtain ⟨σ3, hσ3⟩ : ∃ z, z = fFrees d.toNat (fUnq τ k) k := ⟨_, rfl⟩
              rw [← hσ3] at hW
              refine lv_iload hx hb dX8_stop_84 (lv_at hl 0 rfl) ?_
              refine k_bipush hC dX8_stop_86 (by decide) ?_
              refine k_icmp_ge (tgt := 114) hC dX8_stop_88 (by decide) (by omega) (fun c4 => ?_) (fun c4 => ?_)
              · obtain ⟨g1, g2, g3, g4⟩ := Inv_fFrees hk6 d.toNat (by omega) hUn hU1
                rw [← hσ3] at g1 g2
                have gS := g1.S k hk6.1 hk6.2
                refine lv_aload_n hx hb dX8_stop_114 rfl (lv_at hl 2 rfl) ?_
                refine lv_iload_n hx hb dX8_stop_115 rfl (lv_at hl 3 rfl) ?_
                refine k_callV (As := [.int (zi k)]) (rest := []) hX hl.1 (n_leaves hI σ3 k hk6 g1.W (by omega) (fun z => (mem_rows g1 hk6 z).2)) (cwV 1 hts gX8_stop_X8_leaves rfl rfl rfl (by decide +kernel) ⟨Nat.le_of_ble_eq_true rfl, Nat.le_of_ble_eq_true rfl⟩) (rc_M hC hW) hW hS ⟨Nat.zero_le _, Nat.zero_le _⟩ rfl rfl (Nat.le_of_ble_eq_true rfl) dX8_stop_116 (fun H locs hW hS _ _ => ?_)
                obtain ⟨σ4, hσ4⟩ : ∃ z, z = gLeave σ3 k := ⟨_, rfl⟩
                rw [← hσ4] at hW
                refine lv_aload_n hx hb dX8_stop_119 rfl (lv_at hl 2 rfl) ?_
                refine mg_hasPlayer hC hW hin_X8 hl_34 dX8_stop_120 ?_
                refine lv_iload_n hx hb dX8_stop_123 rfl (lv_at hl 3 rfl) ?_
                refine k_iconst hC dX8_stop_124 ?_
                refine ms_hasPlayer hC hW (by omega) hS (by omega) dX8_stop_125 (fun H locs hW hS => ?_)
                obtain ⟨σ5, hσ5⟩ : ∃ z, z = ups σ4 6 k 0 0 := ⟨_, rfl⟩
                rw [← hσ5] at hW
                refine lv_aload_n hx hb dX8_stop_126 rfl (lv_at hl 2 rfl) ?_
                refine mg_at hC hW hin_X8 hl_47 dX8_stop_127 ?_
                refine lv_iload_n hx hb dX8_stop_130 rfl (lv_at hl 3 rfl) ?_
                refine k_iconst hC dX8_stop_131 ?_
                refine ms_at hC hW (by omega) hS dX8_stop_132 (fun H locs hW hS => ?_)
                obtain ⟨σ6, hσ6⟩ : ∃ z, z = ups σ5 8 k 0 (-1) := ⟨_, rfl⟩
                rw [← hσ6] at hW
                refine lv_iload_n hx hb dX8_stop_133 rfl (lv_at hl 1 rfl) ?_
                have hW : WP Dg mcnt ad (mE cA ad (fStop τ k)) _ := (by unfold fStop; exact ghM (u := 11) (fun _ => rfl) (sw hW (by rw [hσ6, hσ5, hσ4, hσ3, show d.toNat = 6 by omega, fLeave_g, ups_comm _ (show (8 : Nat) ≠ 6 by decide)])))
                exact k_iret hX rfl hW hS dX8_stop_134
              · obtain ⟨g1, g2, g3, g4⟩ := Inv_fFrees hk6 d.toNat (by omega) hUn hU1
                rw [← hσ3] at g1 g2
                have gO := (g1.O.1 d (by omega) (by omega)).1
                refine lv_aload_n hx hb dX8_stop_91 rfl (lv_at hl 2 rfl) ?_
                refine mg_holder hC hW hin_X8 hl_71 dX8_stop_92 ?_
                refine lv_iload hx hb dX8_stop_95 (lv_at hl 0 rfl) ?_
                refine ma_holder hC hW (by omega) (v := σ3 18 d 0) rfl dX8_stop_97 ?_
                refine lv_iload_n hx hb dX8_stop_98 rfl (lv_at hl 3 rfl) ?_
                refine k_icmp_ne (tgt := 108) hC dX8_stop_99 (by decide) (by omega) (fun c5 => ?_) (fun c5 => ?_)
                · refine k_iinc (a := d) (lv' := [(4, .int (zi (d + 1))), (2, .int (zi (held τ k))), (0, .ref (ad 0 0)), (1, .int (zi k))]) hC dX8_stop_108 hl (k := 0) rfl (by decide) rfl (fun ls hl => ?_)
                  refine lv_goto (tgt := 84) hx hb dX8_stop_111 (by decide) ?_
                  have hl := Eq.mp (congrArg (fun z : Int => lv_has ls 6 [(4, .int (zi z)), (2, .int (zi (held τ k))), (0, .ref (ad 0 0)), (1, .int (zi k))]) (show (d + 1 : Int) = (d + 1) by omega)) hl
                  exact ih_84 (d + 1) (by omega) (by omega) _ _ (sw hW (by rw [fFrees_s d1.1, ← hσ3, if_neg (by omega)])) hS _ (lv_sub hl [0, 1, 2, 3] rfl)
                · refine lv_aload_n hx hb dX8_stop_102 rfl (lv_at hl 2 rfl) ?_
                  refine lv_iload hx hb dX8_stop_103 (lv_at hl 0 rfl) ?_
                  refine k_callV (As := [.int (zi d)]) (rest := []) hX hl.1 (n_frees hI σ3 d (by omega) g1.W) (cwV 1 hts gX8_stop_X8_frees rfl rfl rfl (by decide +kernel) ⟨Nat.le_of_ble_eq_true rfl, Nat.le_of_ble_eq_true rfl⟩) (rc_M hC hW) hW hS ⟨Nat.zero_le _, Nat.zero_le _⟩ rfl rfl (Nat.le_of_ble_eq_true rfl) dX8_stop_105 (fun H locs hW hS _ _ => ?_)
                  obtain ⟨σ7, hσ7⟩ : ∃ z, z = fPass σ3 d := ⟨_, rfl⟩
                  rw [← hσ7] at hW
                  refine k_iinc (a := d) (lv' := [(4, .int (zi (d + 1))), (2, .int (zi (held τ k))), (0, .ref (ad 0 0)), (1, .int (zi k))]) hC dX8_stop_108 hl (k := 0) rfl (by decide) rfl (fun ls hl => ?_)
                  refine lv_goto (tgt := 84) hx hb dX8_stop_111 (by decide) ?_
                  have hl := Eq.mp (congrArg (fun z : Int => lv_has ls 6 [(4, .int (zi z)), (2, .int (zi (held τ k))), (0, .ref (ad 0 0)), (1, .int (zi k))]) (show (d + 1 : Int) = (d + 1) by omega)) hl
                  exact ih_84 (d + 1) (by omega) (by omega) _ _ (sw hW (by rw [hσ7, fFrees_s d1.1, ← hσ3, if_pos (by omega)])) hS _ (lv_sub hl [0, 1, 2, 3] rfl)
          exact loop_84 (Int.toNat (6 - 0) + 1) 0 (by omega) (by omega) _ _ (sw hW hσ2) hS _ (lv_sub hl [0, 2, 3, 4] rfl)
        · refine lv_aload_n hx hb dX8_stop_46 rfl (lv_at hl 3 rfl) ?_
          refine mg_queue hC hW hin_X8 hl_74 dX8_stop_47 ?_
          refine k_bipush hC dX8_stop_50 (by decide) ?_
          refine lv_iload_n hx hb dX8_stop_52 rfl (lv_at hl 1 rfl) ?_
          refine k_imul hC dX8_stop_53 ?_
          refine lv_iload hx hb dX8_stop_54 (lv_at hl 0 rfl) ?_
          refine k_iadd hC dX8_stop_56 ?_
          refine ma_queue hC hW (τ 25 k 0) i (by omega) (by omega) (by omega) (v := τ 16 (6 + τ 25 k 0) i) (by rw [hσ1]; exact unM_rd τ i2 (by omega)) dX8_stop_57 ?_
          have hw2 := w2 i (by omega) (by omega)
          refine lv_iload_n hx hb dX8_stop_58 rfl (lv_at hl 4 rfl) ?_
          refine k_icmp_ne (tgt := 72) hC dX8_stop_59 (by decide) (by omega) (fun c6 => ?_) (fun c6 => ?_)
          · have hn : i ≠ (idx τ (6 + τ 25 k 0) k) := fun z => (by assumption : ¬ τ 16 (6 + τ 25 k 0) i = k) (by rw [z]; exact x3)
            refine k_iconst hC dX8_stop_72 ?_
            refine lv_istore (lv' := [(5, .int (zi (-1))), (4, .int (zi i)), (3, .int (zi (τ 25 k 0))), (2, .int (zi (held τ k))), (0, .ref (ad 0 0)), (1, .int (zi k))]) hx hb dX8_stop_73 hl (by decide) rfl (fun ls hl => ?_)
            refine k_iinc (a := i) (lv' := [(4, .int (zi (i + (-1)))), (5, .int (zi (-1))), (3, .int (zi (τ 25 k 0))), (2, .int (zi (held τ k))), (0, .ref (ad 0 0)), (1, .int (zi k))]) hC dX8_stop_75 hl (k := 1) rfl (by decide) rfl (fun ls hl => ?_)
            refine lv_goto (tgt := 41) hx hb dX8_stop_78 (by decide) ?_
            have hl := Eq.mp (congrArg (fun z : Int => lv_has ls 6 [(4, .int (zi z)), (5, .int (zi (-1))), (3, .int (zi (τ 25 k 0))), (2, .int (zi (held τ k))), (0, .ref (ad 0 0)), (1, .int (zi k))]) (show (i + (-1) : Int) = (i + -1) by omega)) hl
            exact ih_41 (i + -1) (by omega) (by omega) (by omega) _ _ (sw hW (by rw [hσ1]; exact unM_go hn)) hS _ (lv_sub hl [0, 2, 3, 4, 5] rfl)
          · have hc : τ 16 (6 + τ 25 k 0) i = k := by omega
            have hJ : i = (idx τ (6 + τ 25 k 0) k) := w3 i _ (by omega) i2 x1 x2 (hc.trans x3.symm)
            have hW : WP Dg mcnt ad (mE cA ad τ) _ := (sw hW (by rw [hσ1]; exact unM_in (by omega)))
            refine lv_aload_n hx hb dX8_stop_62 rfl (lv_at hl 3 rfl) ?_
            refine lv_iload_n hx hb dX8_stop_63 rfl (lv_at hl 1 rfl) ?_
            refine lv_iload hx hb dX8_stop_64 (lv_at hl 0 rfl) ?_
            refine k_callI (As := [.int (zi (τ 25 k 0)), .int (zi i)]) (rest := []) hX hl.1 (n_outOf hI τ (τ 25 k 0) i (by omega) (by omega) w1.2 (by omega)) (cwV 2 hts gX8_stop_X8_outOf rfl rfl rfl (by decide +kernel) ⟨Nat.le_of_ble_eq_true rfl, Nat.le_of_ble_eq_true rfl⟩) (rc_M hC hW) hW hS ⟨Nat.zero_le _, Nat.zero_le _⟩ rfl rfl (Nat.le_of_ble_eq_true rfl) dX8_stop_66 (fun H locs hW hS _ _ => ?_)
            obtain ⟨σ8, hσ8⟩ : ∃ z, z = ups (rAt τ (6 + (τ 25 k 0)) i) 25 (τ 16 (6 + (τ 25 k 0)) i) 0 (-1) := ⟨_, rfl⟩
            rw [← hσ8] at hW
            refine lv_goto (tgt := 73) hx hb dX8_stop_69 (by decide) ?_
            refine lv_istore (lv' := [(5, .int (zi (τ 16 (6 + (τ 25 k 0)) i))), (4, .int (zi i)), (3, .int (zi (τ 25 k 0))), (2, .int (zi (held τ k))), (0, .ref (ad 0 0)), (1, .int (zi k))]) hx hb dX8_stop_73 hl (by decide) rfl (fun ls hl => ?_)
            refine k_iinc (a := i) (lv' := [(4, .int (zi (i + (-1)))), (5, .int (zi (τ 16 (6 + (τ 25 k 0)) i))), (3, .int (zi (τ 25 k 0))), (2, .int (zi (held τ k))), (0, .ref (ad 0 0)), (1, .int (zi k))]) hC dX8_stop_75 hl (k := 1) rfl (by decide) rfl (fun ls hl => ?_)
            refine lv_goto (tgt := 41) hx hb dX8_stop_78 (by decide) ?_
            have hl := Eq.mp (congrArg (fun z : Int => lv_has ls 6 [(4, .int (zi z)), (5, .int (zi (τ 16 (6 + (τ 25 k 0)) i))), (3, .int (zi (τ 25 k 0))), (2, .int (zi (held τ k))), (0, .ref (ad 0 0)), (1, .int (zi k))]) (show (i + (-1) : Int) = (i + -1) by omega)) hl
            exact ih_41 (i + -1) (by omega) (by omega) (by omega) _ _ (sw hW (by rw [hσ8]; exact unM_at hJ hc)) hS _ (lv_sub hl [0, 2, 3, 4, 5] rfl)
    have hl := Eq.mp (congrArg (fun z : Int => lv_has ls 6 [(4, .int (zi z)), (3, .int (zi (τ 25 k 0))), (2, .int (zi (held τ k))), (0, .ref (ad 0 0)), (1, .int (zi k))]) (show ((τ 17 (6 + (τ 25 k 0)) 0) - 1 : Int) = (τ 17 (6 + τ 25 k 0) 0 - 1) by omega)) hl
    exact loop_41 (Int.toNat ((τ 17 (6 + τ 25 k 0) 0 - 1) + 1) + 1) (τ 17 (6 + τ 25 k 0) 0 - 1) (by omega) (by omega) (by omega) _ _ (sw hW (unM_in (by omega)).symm) hS _ (lv_sub hl [0, 1, 2, 3, 4] rfl)
  · refine k_iconst hC dX8_stop_27 ?_
    refine lv_goto (tgt := 39) hx hb dX8_stop_28 (by decide) ?_
    refine lv_istore (lv' := [(4, .int (zi (-1))), (3, .int (zi (τ 25 k 0))), (2, .int (zi (held τ k))), (0, .ref (ad 0 0)), (1, .int (zi k))]) hx hb dX8_stop_39 hl (by decide) rfl (fun ls hl => ?_)
    refine lv_iload hx hb dX8_stop_41 (lv_at hl 0 rfl) ?_
    refine k_if_lt (tgt := 81) hC dX8_stop_43 (by decide) (by omega) (fun c7 => ?_) (fun c7 => absurd c7 (by omega))
    obtain ⟨σ9, hσ9⟩ : ∃ z, z = fUnq τ k := ⟨_, rfl⟩
    have hW : WP Dg mcnt ad (mE cA ad σ9) _ := (sw hW (by rw [hσ9, fUnq, if_pos (by omega)]))
    refine k_iconst hC dX8_stop_81 ?_
    refine lv_istore (lv' := [(4, .int (zi 0)), (3, .int (zi (τ 25 k 0))), (2, .int (zi (held τ k))), (0, .ref (ad 0 0)), (1, .int (zi k))]) hx hb dX8_stop_82 hl (by decide) rfl (fun ls hl => ?_)
    have loop_84 : ∀ (fuel : Nat) (d : Int), 6 - d < (fuel : Int) → (0 ≤ d ∧ d ≤ 6) → ∀ (H : Heap) (locs : List Loc), WP Dg mcnt ad (mE cA ad (fFrees d.toNat (fUnq τ k) k)) H → va_S (WA mcnt ad s₀.heap.size) s₀.heap H locs → ∀ ls : Array Slot, lv_has ls 6 [(4, .int (zi d)), (2, .int (zi (held τ k))), (0, .ref (ad 0 0)), (1, .int (zi k))] → W pgm l env ({ frames := 3, cells := 0, slots := 0, locals := 64 } : Room) s₀ m₀ ([.ref (ad 0 0), .int (zi k)] : List Value).toArray bel mth cod H locs 0 0 (MQ bel (va_Qi (fun (rr : Int32) (_ : Unit) => rr = zi (held τ k)) (gB Dg mcnt ad (mE cA ad (fStop τ k))) (WA mcnt ad s₀.heap.size)) ([.ref (ad 0 0), .int (zi k)] : List Value).toArray s₀ 0 0 (WA mcnt ad s₀.heap.size)) (F0 m₀ 84 ls []) := by
      intro fuel
      induction fuel with
      | zero => intro d hn d1; exact absurd hn (by omega)
      | succ fuel ih_84 =>
        intro d hn d1 H locs hW hS ls hl
        obtain ⟨σ10, hσ10⟩ : ∃ z, z = fFrees d.toNat (fUnq τ k) k := ⟨_, rfl⟩
        rw [← hσ10] at hW
        refine lv_iload hx hb dX8_stop_84 (lv_at hl 0 rfl) ?_
        refine k_bipush hC dX8_stop_86 (by decide) ?_
        refine k_icmp_ge (tgt := 114) hC dX8_stop_88 (by decide) (by omega) (fun c8 => ?_) (fun c8 => ?_)
        · obtain ⟨g1, g2, g3, g4⟩ := Inv_fFrees hk6 d.toNat (by omega) hUn hU1
          rw [← hσ10] at g1 g2
          have gS := g1.S k hk6.1 hk6.2
          refine lv_aload_n hx hb dX8_stop_114 rfl (lv_at hl 2 rfl) ?_
          refine lv_iload_n hx hb dX8_stop_115 rfl (lv_at hl 3 rfl) ?_
          refine k_callV (As := [.int (zi k)]) (rest := []) hX hl.1 (n_leaves hI σ10 k hk6 g1.W (by omega) (fun z => (mem_rows g1 hk6 z).2)) (cwV 1 hts gX8_stop_X8_leaves rfl rfl rfl (by decide +kernel) ⟨Nat.le_of_ble_eq_true rfl, Nat.le_of_ble_eq_true rfl⟩) (rc_M hC hW) hW hS ⟨Nat.zero_le _, Nat.zero_le _⟩ rfl rfl (Nat.le_of_ble_eq_true rfl) dX8_stop_116 (fun H locs hW hS _ _ => ?_)
          obtain ⟨σ11, hσ11⟩ : ∃ z, z = gLeave σ10 k := ⟨_, rfl⟩
          rw [← hσ11] at hW
          refine lv_aload_n hx hb dX8_stop_119 rfl (lv_at hl 2 rfl) ?_
          refine mg_hasPlayer hC hW hin_X8 hl_34 dX8_stop_120 ?_
          refine lv_iload_n hx hb dX8_stop_123 rfl (lv_at hl 3 rfl) ?_
          refine k_iconst hC dX8_stop_124 ?_
          refine ms_hasPlayer hC hW (by omega) hS (by omega) dX8_stop_125 (fun H locs hW hS => ?_)
          obtain ⟨σ12, hσ12⟩ : ∃ z, z = ups σ11 6 k 0 0 := ⟨_, rfl⟩
          rw [← hσ12] at hW
          refine lv_aload_n hx hb dX8_stop_126 rfl (lv_at hl 2 rfl) ?_
          refine mg_at hC hW hin_X8 hl_47 dX8_stop_127 ?_
          refine lv_iload_n hx hb dX8_stop_130 rfl (lv_at hl 3 rfl) ?_
          refine k_iconst hC dX8_stop_131 ?_
          refine ms_at hC hW (by omega) hS dX8_stop_132 (fun H locs hW hS => ?_)
          obtain ⟨σ13, hσ13⟩ : ∃ z, z = ups σ12 8 k 0 (-1) := ⟨_, rfl⟩
          rw [← hσ13] at hW
          refine lv_iload_n hx hb dX8_stop_133 rfl (lv_at hl 1 rfl) ?_
          have hW : WP Dg mcnt ad (mE cA ad (fStop τ k)) _ := (by unfold fStop; exact ghM (u := 11) (fun _ => rfl) (sw hW (by rw [hσ13, hσ12, hσ11, hσ10, show d.toNat = 6 by omega, fLeave_g, ups_comm _ (show (8 : Nat) ≠ 6 by decide)])))
          exact k_iret hX rfl hW hS dX8_stop_134
        · obtain ⟨g1, g2, g3, g4⟩ := Inv_fFrees hk6 d.toNat (by omega) hUn hU1
          rw [← hσ10] at g1 g2
          have gO := (g1.O.1 d (by omega) (by omega)).1
          refine lv_aload_n hx hb dX8_stop_91 rfl (lv_at hl 2 rfl) ?_
          refine mg_holder hC hW hin_X8 hl_71 dX8_stop_92 ?_
          refine lv_iload hx hb dX8_stop_95 (lv_at hl 0 rfl) ?_
          refine ma_holder hC hW (by omega) (v := σ10 18 d 0) rfl dX8_stop_97 ?_
          refine lv_iload_n hx hb dX8_stop_98 rfl (lv_at hl 3 rfl) ?_
          refine k_icmp_ne (tgt := 108) hC dX8_stop_99 (by decide) (by omega) (fun c9 => ?_) (fun c9 => ?_)
          · refine k_iinc (a := d) (lv' := [(4, .int (zi (d + 1))), (2, .int (zi (held τ k))), (0, .ref (ad 0 0)), (1, .int (zi k))]) hC dX8_stop_108 hl (k := 0) rfl (by decide) rfl (fun ls hl => ?_)
            refine lv_goto (tgt := 84) hx hb dX8_stop_111 (by decide) ?_
            have hl := Eq.mp (congrArg (fun z : Int => lv_has ls 6 [(4, .int (zi z)), (2, .int (zi (held τ k))), (0, .ref (ad 0 0)), (1, .int (zi k))]) (show (d + 1 : Int) = (d + 1) by omega)) hl
            exact ih_84 (d + 1) (by omega) (by omega) _ _ (sw hW (by rw [fFrees_s d1.1, ← hσ10, if_neg (by omega)])) hS _ (lv_sub hl [0, 1, 2, 3] rfl)
          · refine lv_aload_n hx hb dX8_stop_102 rfl (lv_at hl 2 rfl) ?_
            refine lv_iload hx hb dX8_stop_103 (lv_at hl 0 rfl) ?_
            refine k_callV (As := [.int (zi d)]) (rest := []) hX hl.1 (n_frees hI σ10 d (by omega) g1.W) (cwV 1 hts gX8_stop_X8_frees rfl rfl rfl (by decide +kernel) ⟨Nat.le_of_ble_eq_true rfl, Nat.le_of_ble_eq_true rfl⟩) (rc_M hC hW) hW hS ⟨Nat.zero_le _, Nat.zero_le _⟩ rfl rfl (Nat.le_of_ble_eq_true rfl) dX8_stop_105 (fun H locs hW hS _ _ => ?_)
            obtain ⟨σ14, hσ14⟩ : ∃ z, z = fPass σ10 d := ⟨_, rfl⟩
            rw [← hσ14] at hW
            refine k_iinc (a := d) (lv' := [(4, .int (zi (d + 1))), (2, .int (zi (held τ k))), (0, .ref (ad 0 0)), (1, .int (zi k))]) hC dX8_stop_108 hl (k := 0) rfl (by decide) rfl (fun ls hl => ?_)
            refine lv_goto (tgt := 84) hx hb dX8_stop_111 (by decide) ?_
            have hl := Eq.mp (congrArg (fun z : Int => lv_has ls 6 [(4, .int (zi z)), (2, .int (zi (held τ k))), (0, .ref (ad 0 0)), (1, .int (zi k))]) (show (d + 1 : Int) = (d + 1) by omega)) hl
            exact ih_84 (d + 1) (by omega) (by omega) _ _ (sw hW (by rw [hσ14, fFrees_s d1.1, ← hσ10, if_pos (by omega)])) hS _ (lv_sub hl [0, 1, 2, 3] rfl)
    exact loop_84 (Int.toNat (6 - 0) + 1) 0 (by omega) (by omega) _ _ (sw hW hσ9) hS _ (lv_sub hl [0, 2, 3, 4] rfl)
set_option maxHeartbeats 1000000 in
set_option maxRecDepth 100000 in
theorem n_stop_x {l : Launch} {Dg : va_G} {cA : Nat → ClassId} {ad : Nat → Int → Nat} {oc : Nat → Nat} (hI : WI mcnt ad) {N M : Int} (σ : St) (k : Int) (hv : Inv N M σ) (h1 : ¬ (0 ≤ k ∧ k < σ 27 0 0)) (hxr : -2147483648 ≤ k ∧ k < 2147483648) : GI l yX8_stop wsX8_stop ({ frames := 3, cells := 0, slots := 0, locals := 64 } : Room) Dg cA mcnt ad oc (mE cA ad σ) [.ref (ad 0 0), .int (zi k)] 0 (mE cA ad (ups σ 31 0 0 1)) := by
  intro sz
  refine g_ent (cc := cX8_stop) (maxL := 6) (ret := (some .int)) (by decide) rfl hI (Nat.le_of_ble_eq_true rfl) ?_
  intro pgm env s₀ m₀ bel mth cod hX hW hS hsz ls hl
  subst hsz
  have hC := hX.1
  have hx := hC.1
  have hb := hC.2.1
  have hts := hC.2.2.2.1
  have hl : lv_has ls 6 [(0, .ref (ad 0 0)), (1, .int (zi k))] := hl
  have hA := hv.A
  unfold IvA at hA
  refine lv_aload_n hx hb dX8_stop_0 rfl (lv_at hl 0 rfl) ?_
  refine lv_iload_n hx hb dX8_stop_1 rfl (lv_at hl 1 rfl) ?_
  refine k_callI (As := [.int (zi k)]) (rest := []) hX hl.1 (n_isNone_x hI σ k (by omega) h1 hxr) (cwV 1 hts gX8_stop_X8_isNone rfl rfl rfl (by decide +kernel) ⟨Nat.le_of_ble_eq_true rfl, Nat.le_of_ble_eq_true rfl⟩) (rc_M hC hW) hW hS ⟨Nat.zero_le _, Nat.zero_le _⟩ rfl rfl (Nat.le_of_ble_eq_true rfl) dX8_stop_2 (fun H locs hW hS _ _ => ?_)
  obtain ⟨σ1, hσ1⟩ : ∃ z, z = ups σ 31 0 0 1 := ⟨_, rfl⟩
  rw [← hσ1] at hW
  refine k_if_eq (tgt := 10) hC dX8_stop_5 (by decide) (by omega) (fun c1 => absurd c1 (by omega)) (fun c1 => ?_)
  refine k_iconst hC dX8_stop_8 ?_
  have hW : WP Dg mcnt ad (mE cA ad (ups σ 31 0 0 1)) _ := (sw hW (by first | (rw [hσ1]; done) | (rw [hσ1]; exact ups_ups _ _ _ _ _ _) | (rw [hσ1, ups_ups, ups_ups]; done)))
  exact k_iret hX rfl hW hS dX8_stop_9
set_option maxHeartbeats 1000000 in
set_option maxRecDepth 100000 in
theorem n_stop_n {l : Launch} {Dg : va_G} {cA : Nat → ClassId} {ad : Nat → Int → Nat} {oc : Nat → Nat} (hI : WI mcnt ad) {N M : Int} (σ : St) (k : Int) (hv : Inv N M σ) (hk : 0 ≤ k ∧ k < σ 27 0 0) (h6 : σ 6 k 0 = 0) : GI l yX8_stop wsX8_stop ({ frames := 3, cells := 0, slots := 0, locals := 64 } : Room) Dg cA mcnt ad oc (mE cA ad σ) [.ref (ad 0 0), .int (zi k)] 0 (mE cA ad (ups σ 31 0 0 2)) := by
  intro sz
  refine g_ent (cc := cX8_stop) (maxL := 6) (ret := (some .int)) (by decide) rfl hI (Nat.le_of_ble_eq_true rfl) ?_
  intro pgm env s₀ m₀ bel mth cod hX hW hS hsz ls hl
  subst hsz
  have hC := hX.1
  have hx := hC.1
  have hb := hC.2.1
  have hts := hC.2.2.2.1
  have hl : lv_has ls 6 [(0, .ref (ad 0 0)), (1, .int (zi k))] := hl
  have hA := hv.A
  unfold IvA at hA
  refine lv_aload_n hx hb dX8_stop_0 rfl (lv_at hl 0 rfl) ?_
  refine lv_iload_n hx hb dX8_stop_1 rfl (lv_at hl 1 rfl) ?_
  refine k_callI (As := [.int (zi k)]) (rest := []) hX hl.1 (n_isNone_n hI σ k (by omega) hk h6) (cwV 1 hts gX8_stop_X8_isNone rfl rfl rfl (by decide +kernel) ⟨Nat.le_of_ble_eq_true rfl, Nat.le_of_ble_eq_true rfl⟩) (rc_M hC hW) hW hS ⟨Nat.zero_le _, Nat.zero_le _⟩ rfl rfl (Nat.le_of_ble_eq_true rfl) dX8_stop_2 (fun H locs hW hS _ _ => ?_)
  obtain ⟨σ1, hσ1⟩ : ∃ z, z = ups σ 31 0 0 2 := ⟨_, rfl⟩
  rw [← hσ1] at hW
  refine k_if_eq (tgt := 10) hC dX8_stop_5 (by decide) (by omega) (fun c1 => absurd c1 (by omega)) (fun c1 => ?_)
  refine k_iconst hC dX8_stop_8 ?_
  have hW : WP Dg mcnt ad (mE cA ad (ups σ 31 0 0 2)) _ := (sw hW (by first | (rw [hσ1]; done) | (rw [hσ1]; exact ups_ups _ _ _ _ _ _) | (rw [hσ1, ups_ups, ups_ups]; done)))
  exact k_iret hX rfl hW hS dX8_stop_9
set_option maxHeartbeats 1000000 in
set_option maxRecDepth 100000 in
theorem n_freeze {l : Launch} {Dg : va_G} {cA : Nat → ClassId} {ad : Nat → Int → Nat} {oc : Nat → Nat} (hI : WI mcnt ad) {N M : Int} {τ : St} (σ : St) (k : Int) (hτ : τ = ups σ 31 0 0 0) (hv : Inv N M τ) (hk : 0 ≤ k ∧ k < τ 27 0 0) : GI l yX8_freeze wsX8_freeze ({ frames := 2, cells := 0, slots := 0, locals := 43 } : Room) Dg cA mcnt ad oc (mE cA ad σ) [.ref (ad 0 0), .int (zi k)] (if τ 12 k 0 = 0 then 1 else 0) (mE cA ad (ups τ 12 k 0 1)) := by
  intro sz
  refine g_ent (cc := cX8_freeze) (maxL := 3) (ret := (some .boolean)) (by decide) rfl hI (Nat.le_of_ble_eq_true rfl) ?_
  intro pgm env s₀ m₀ bel mth cod hX hW hS hsz ls hl
  subst hsz
  have hC := hX.1
  have hx := hC.1
  have hb := hC.2.1
  have hts := hC.2.2.2.1
  have hl : lv_has ls 3 [(0, .ref (ad 0 0)), (1, .int (zi k))] := hl
  have hin_X8 : ∀ w ∈ wsX80, w ∈ wsX8_freeze := by decide +kernel
  have hl_38 := hts (.fieldLink RX8 38 "KioskReelModel" "isFrozen" "[Z") (by decide +kernel)
  have eσ : ∀ (t : Nat) (i j : Int), t ≠ 31 → σ t i j = τ t i j := fun t i j h => by rw [hτ, ups_t _ h]
  have e26 := eσ 26 0 0 (by decide)
  have e27 := eσ 27 0 0 (by decide)
  have e28 := eσ 28 0 0 (by decide)
  have hA := hv.A
  unfold IvA at hA
  have hk6 : 0 ≤ k ∧ k < 6 := by omega
  have hK1 := (hv.K k hk6.1 hk6.2).1
  refine lv_aload_n hx hb dX8_freeze_0 rfl (lv_at hl 0 rfl) ?_
  refine lv_aload_n hx hb dX8_freeze_1 rfl (lv_at hl 0 rfl) ?_
  refine lv_iload_n hx hb dX8_freeze_2 rfl (lv_at hl 1 rfl) ?_
  refine k_callI (As := [.int (zi k)]) (rest := [.ref (ad 0 0)]) hX hl.1 (n_isKiosk hI σ k (by omega) (by omega)) (cwV 1 hts gX8_freeze_X8_isKiosk rfl rfl rfl (by decide +kernel) ⟨Nat.le_of_ble_eq_true rfl, Nat.le_of_ble_eq_true rfl⟩) (rc_M hC hW) hW hS ⟨Nat.zero_le _, Nat.zero_le _⟩ rfl rfl (Nat.le_of_ble_eq_true rfl) dX8_freeze_3 (fun H locs hW hS _ _ => ?_)
  refine k_if_ne (tgt := 13) hC dX8_freeze_6 (by decide) (by omega) (fun c1 => ?_) (fun c1 => absurd c1 (by omega))
  refine k_iconst hC dX8_freeze_13 ?_
  refine k_iconst hC dX8_freeze_14 ?_
  refine k_callI (As := [.int (zi 0), .int (zi 1)]) (rest := []) hX hl.1 (n_thr0 hI σ 1 (by omega)) (cwV 2 hts gX8_freeze_X8_isThrown rfl rfl rfl (by decide +kernel) ⟨Nat.le_of_ble_eq_true rfl, Nat.le_of_ble_eq_true rfl⟩) (rc_M hC hW) hW hS ⟨Nat.zero_le _, Nat.zero_le _⟩ rfl rfl (Nat.le_of_ble_eq_true rfl) dX8_freeze_15 (fun H locs hW hS _ _ => ?_)
  have hW : WP Dg mcnt ad (mE cA ad τ) _ := (sw hW hτ.symm)
  refine k_if_eq (tgt := 23) hC dX8_freeze_18 (by decide) (by omega) (fun c2 => ?_) (fun c2 => absurd c2 (by omega))
  refine lv_aload_n hx hb dX8_freeze_23 rfl (lv_at hl 0 rfl) ?_
  refine mg_isFrozen hC hW hin_X8 hl_38 dX8_freeze_24 ?_
  refine lv_iload_n hx hb dX8_freeze_27 rfl (lv_at hl 1 rfl) ?_
  refine ma_isFrozen hC hW (by omega) (v := τ 12 k 0) rfl dX8_freeze_28 ?_
  refine lv_istore_n (lv' := [(2, .int (zi (τ 12 k 0))), (0, .ref (ad 0 0)), (1, .int (zi k))]) hx hb dX8_freeze_29 rfl hl (by decide) rfl (fun ls hl => ?_)
  refine lv_aload_n hx hb dX8_freeze_30 rfl (lv_at hl 1 rfl) ?_
  refine mg_isFrozen hC hW hin_X8 hl_38 dX8_freeze_31 ?_
  refine lv_iload_n hx hb dX8_freeze_34 rfl (lv_at hl 2 rfl) ?_
  refine k_iconst hC dX8_freeze_35 ?_
  refine ms_isFrozen hC hW (by omega) hS (by omega) dX8_freeze_36 (fun H locs hW hS => ?_)
  obtain ⟨σ1, hσ1⟩ : ∃ z, z = ups τ 12 k 0 1 := ⟨_, rfl⟩
  rw [← hσ1] at hW
  refine lv_iload_n hx hb dX8_freeze_37 rfl (lv_at hl 0 rfl) ?_
  refine k_if_ne (tgt := 45) hC dX8_freeze_38 (by decide) (by omega) (fun c3 => ?_) (fun c3 => ?_)
  · refine k_iconst hC dX8_freeze_45 ?_
    have hW : WP Dg mcnt ad (mE cA ad (ups τ 12 k 0 1)) _ := (sw hW (by rw [hσ1]))
    exact k_zret hX (by omega) (by first | rw [if_pos (by omega)] | rw [if_neg (by omega)]) hW hS dX8_freeze_46
  · refine k_iconst hC dX8_freeze_41 ?_
    refine lv_goto (tgt := 46) hx hb dX8_freeze_42 (by decide) ?_
    have hW : WP Dg mcnt ad (mE cA ad (ups τ 12 k 0 1)) _ := (sw hW (by rw [hσ1]))
    exact k_zret hX (by omega) (by first | rw [if_pos (by omega)] | rw [if_neg (by omega)]) hW hS dX8_freeze_46
set_option maxHeartbeats 1000000 in
set_option maxRecDepth 100000 in
theorem n_freeze_x {l : Launch} {Dg : va_G} {cA : Nat → ClassId} {ad : Nat → Int → Nat} {oc : Nat → Nat} (hI : WI mcnt ad) {N M : Int} (σ : St) (k : Int) (hv : Inv N M σ) (h1 : ¬ (0 ≤ k ∧ k < σ 27 0 0)) (hxr : -2147483648 ≤ k ∧ k < 2147483648) : GI l yX8_freeze wsX8_freeze ({ frames := 2, cells := 0, slots := 0, locals := 43 } : Room) Dg cA mcnt ad oc (mE cA ad σ) [.ref (ad 0 0), .int (zi k)] 0 (mE cA ad (ups σ 31 0 0 1)) := by
  intro sz
  refine g_ent (cc := cX8_freeze) (maxL := 3) (ret := (some .boolean)) (by decide) rfl hI (Nat.le_of_ble_eq_true rfl) ?_
  intro pgm env s₀ m₀ bel mth cod hX hW hS hsz ls hl
  subst hsz
  have hC := hX.1
  have hx := hC.1
  have hb := hC.2.1
  have hts := hC.2.2.2.1
  have hl : lv_has ls 3 [(0, .ref (ad 0 0)), (1, .int (zi k))] := hl
  have hA := hv.A
  unfold IvA at hA
  refine lv_aload_n hx hb dX8_freeze_0 rfl (lv_at hl 0 rfl) ?_
  refine lv_aload_n hx hb dX8_freeze_1 rfl (lv_at hl 0 rfl) ?_
  refine lv_iload_n hx hb dX8_freeze_2 rfl (lv_at hl 1 rfl) ?_
  refine k_callI (As := [.int (zi k)]) (rest := [.ref (ad 0 0)]) hX hl.1 (n_isKiosk hI σ k (by omega) (by omega)) (cwV 1 hts gX8_freeze_X8_isKiosk rfl rfl rfl (by decide +kernel) ⟨Nat.le_of_ble_eq_true rfl, Nat.le_of_ble_eq_true rfl⟩) (rc_M hC hW) hW hS ⟨Nat.zero_le _, Nat.zero_le _⟩ rfl rfl (Nat.le_of_ble_eq_true rfl) dX8_freeze_3 (fun H locs hW hS _ _ => ?_)
  refine k_if_ne (tgt := 13) hC dX8_freeze_6 (by decide) (by omega) (fun c1 => absurd c1 (by omega)) (fun c1 => ?_)
  refine k_iconst hC dX8_freeze_9 ?_
  refine lv_goto (tgt := 14) hx hb dX8_freeze_10 (by decide) ?_
  refine k_iconst hC dX8_freeze_14 ?_
  refine k_callI (As := [.int (zi 1), .int (zi 1)]) (rest := []) hX hl.1 (n_thr1 hI σ 1 (by omega)) (cwV 2 hts gX8_freeze_X8_isThrown rfl rfl rfl (by decide +kernel) ⟨Nat.le_of_ble_eq_true rfl, Nat.le_of_ble_eq_true rfl⟩) (rc_M hC hW) hW hS ⟨Nat.zero_le _, Nat.zero_le _⟩ rfl rfl (Nat.le_of_ble_eq_true rfl) dX8_freeze_15 (fun H locs hW hS _ _ => ?_)
  obtain ⟨σ1, hσ1⟩ : ∃ z, z = ups σ 31 0 0 1 := ⟨_, rfl⟩
  rw [← hσ1] at hW
  refine k_if_eq (tgt := 23) hC dX8_freeze_18 (by decide) (by omega) (fun c2 => absurd c2 (by omega)) (fun c2 => ?_)
  refine k_iconst hC dX8_freeze_21 ?_
  have hW : WP Dg mcnt ad (mE cA ad (ups σ 31 0 0 1)) _ := (sw hW (by first | (rw [hσ1]; done) | (rw [hσ1]; exact ups_ups _ _ _ _ _ _) | (rw [hσ1, ups_ups, ups_ups]; done)))
  exact k_zret hX (by omega) rfl hW hS dX8_freeze_22
set_option maxHeartbeats 1000000 in
set_option maxRecDepth 100000 in
theorem n_thaw {l : Launch} {Dg : va_G} {cA : Nat → ClassId} {ad : Nat → Int → Nat} {oc : Nat → Nat} (hI : WI mcnt ad) {N M : Int} {τ : St} (σ : St) (k : Int) (hτ : τ = ups σ 31 0 0 0) (hv : Inv N M τ) (hk : 0 ≤ k ∧ k < τ 27 0 0) (hM : 0 ≤ M) : GI l yX8_thaw wsX8_thaw ({ frames := 2, cells := 0, slots := 0, locals := 43 } : Room) Dg cA mcnt ad oc (mE cA ad σ) [.ref (ad 0 0), .int (zi k)] (aThaw τ k) (mE cA ad (fThaw τ k)) := by
  intro sz
  refine g_ent (cc := cX8_thaw) (maxL := 5) (ret := (some .int)) (by decide) rfl hI (Nat.le_of_ble_eq_true rfl) ?_
  intro pgm env s₀ m₀ bel mth cod hX hW hS hsz ls hl
  subst hsz
  have hC := hX.1
  have hx := hC.1
  have hb := hC.2.1
  have hts := hC.2.2.2.1
  have hl : lv_has ls 5 [(0, .ref (ad 0 0)), (1, .int (zi k))] := hl
  have hin_X8 : ∀ w ∈ wsX80, w ∈ wsX8_thaw := by decide +kernel
  have hl_34 := hts (.fieldLink RX8 34 "KioskReelModel" "hasPlayer" "[Z") (by decide +kernel)
  have hl_38 := hts (.fieldLink RX8 38 "KioskReelModel" "isFrozen" "[Z") (by decide +kernel)
  have hl_41 := hts (.fieldLink RX8 41 "KioskReelModel" "isOut" "[Z") (by decide +kernel)
  have hl_47 := hts (.fieldLink RX8 47 "KioskReelModel" "at" "[I") (by decide +kernel)
  have hl_59 := hts (.fieldLink RX8 59 "KioskReelModel" "frozenFor" "[I") (by decide +kernel)
  have hl_100 := hts (.fieldLink RX8 100 "KioskReelModel" "kiosks" "I") (by decide +kernel)
  have eσ : ∀ (t : Nat) (i j : Int), t ≠ 31 → σ t i j = τ t i j := fun t i j h => by rw [hτ, ups_t _ h]
  have e26 := eσ 26 0 0 (by decide)
  have e27 := eσ 27 0 0 (by decide)
  have e28 := eσ 28 0 0 (by decide)
  have hA := hv.A
  unfold IvA at hA
  have hk6 : 0 ≤ k ∧ k < 6 := by omega
  have hK1 := (hv.K k hk6.1 hk6.2).2.1
  have hS6 := (hv.S k hk6.1 hk6.2).1
  have hT0 := Inv_fThaw0 (k := k) hv hM
  refine lv_aload_n hx hb dX8_thaw_0 rfl (lv_at hl 0 rfl) ?_
  refine lv_aload_n hx hb dX8_thaw_1 rfl (lv_at hl 0 rfl) ?_
  refine lv_iload_n hx hb dX8_thaw_2 rfl (lv_at hl 1 rfl) ?_
  refine k_callI (As := [.int (zi k)]) (rest := [.ref (ad 0 0)]) hX hl.1 (n_isKiosk hI σ k (by omega) (by omega)) (cwV 1 hts gX8_thaw_X8_isKiosk rfl rfl rfl (by decide +kernel) ⟨Nat.le_of_ble_eq_true rfl, Nat.le_of_ble_eq_true rfl⟩) (rc_M hC hW) hW hS ⟨Nat.zero_le _, Nat.zero_le _⟩ rfl rfl (Nat.le_of_ble_eq_true rfl) dX8_thaw_3 (fun H locs hW hS _ _ => ?_)
  refine k_if_ne (tgt := 13) hC dX8_thaw_6 (by decide) (by omega) (fun c1 => ?_) (fun c1 => absurd c1 (by omega))
  refine k_iconst hC dX8_thaw_13 ?_
  refine k_iconst hC dX8_thaw_14 ?_
  refine k_callI (As := [.int (zi 0), .int (zi 1)]) (rest := []) hX hl.1 (n_thr0 hI σ 1 (by omega)) (cwV 2 hts gX8_thaw_X8_isThrown rfl rfl rfl (by decide +kernel) ⟨Nat.le_of_ble_eq_true rfl, Nat.le_of_ble_eq_true rfl⟩) (rc_M hC hW) hW hS ⟨Nat.zero_le _, Nat.zero_le _⟩ rfl rfl (Nat.le_of_ble_eq_true rfl) dX8_thaw_15 (fun H locs hW hS _ _ => ?_)
  have hW : WP Dg mcnt ad (mE cA ad τ) _ := (sw hW hτ.symm)
  refine k_if_eq (tgt := 23) hC dX8_thaw_18 (by decide) (by omega) (fun c2 => ?_) (fun c2 => absurd c2 (by omega))
  refine lv_aload_n hx hb dX8_thaw_23 rfl (lv_at hl 0 rfl) ?_
  refine mg_isOut hC hW hin_X8 hl_41 dX8_thaw_24 ?_
  refine lv_iload_n hx hb dX8_thaw_27 rfl (lv_at hl 1 rfl) ?_
  refine ma_isOut hC hW (by omega) (v := τ 13 k 0) rfl dX8_thaw_28 ?_
  refine lv_istore_n (lv' := [(2, .int (zi (τ 13 k 0))), (0, .ref (ad 0 0)), (1, .int (zi k))]) hx hb dX8_thaw_29 rfl hl (by decide) rfl (fun ls hl => ?_)
  refine lv_aload_n hx hb dX8_thaw_30 rfl (lv_at hl 1 rfl) ?_
  refine mg_isFrozen hC hW hin_X8 hl_38 dX8_thaw_31 ?_
  refine lv_iload_n hx hb dX8_thaw_34 rfl (lv_at hl 2 rfl) ?_
  refine k_iconst hC dX8_thaw_35 ?_
  refine ms_isFrozen hC hW (by omega) hS (by omega) dX8_thaw_36 (fun H locs hW hS => ?_)
  obtain ⟨σ1, hσ1⟩ : ∃ z, z = ups τ 12 k 0 0 := ⟨_, rfl⟩
  rw [← hσ1] at hW
  refine lv_aload_n hx hb dX8_thaw_37 rfl (lv_at hl 1 rfl) ?_
  refine mg_isOut hC hW hin_X8 hl_41 dX8_thaw_38 ?_
  refine lv_iload_n hx hb dX8_thaw_41 rfl (lv_at hl 2 rfl) ?_
  refine k_iconst hC dX8_thaw_42 ?_
  refine ms_isOut hC hW (by omega) hS (by omega) dX8_thaw_43 (fun H locs hW hS => ?_)
  obtain ⟨σ2, hσ2⟩ : ∃ z, z = ups σ1 13 k 0 0 := ⟨_, rfl⟩
  rw [← hσ2] at hW
  refine lv_aload_n hx hb dX8_thaw_44 rfl (lv_at hl 1 rfl) ?_
  refine mg_frozenFor hC hW hin_X8 hl_59 dX8_thaw_45 ?_
  refine lv_iload_n hx hb dX8_thaw_48 rfl (lv_at hl 2 rfl) ?_
  refine k_iconst hC dX8_thaw_49 ?_
  refine ms_frozenFor hC hW (by omega) hS dX8_thaw_50 (fun H locs hW hS => ?_)
  obtain ⟨σ3, hσ3⟩ : ∃ z, z = ups σ2 23 k 0 0 := ⟨_, rfl⟩
  rw [← hσ3] at hW
  obtain ⟨σ4, hσ4⟩ : ∃ z, z = fThaw0 τ k := ⟨_, rfl⟩
  have hW : WP Dg mcnt ad (mE cA ad σ4) _ := (by rw [hσ4, fThaw0, ups_comm _ (show (14 : Nat) ≠ 13 by decide), ups_comm _ (show (14 : Nat) ≠ 23 by decide)]; exact ghM (u := 14) (fun _ => rfl) (sw hW (by rw [hσ3, hσ2, hσ1])))
  refine k_iconst hC dX8_thaw_51 ?_
  refine lv_istore_n (lv' := [(3, .int (zi 0)), (2, .int (zi (τ 13 k 0))), (0, .ref (ad 0 0)), (1, .int (zi k))]) hx hb dX8_thaw_52 rfl hl (by decide) rfl (fun ls hl => ?_)
  refine lv_iload_n hx hb dX8_thaw_53 rfl (lv_at hl 1 rfl) ?_
  refine k_if_eq (tgt := 80) hC dX8_thaw_54 (by decide) (by omega) (fun c3 => ?_) (fun c3 => ?_)
  · refine k_iconst hC dX8_thaw_80 ?_
    refine lv_istore (lv' := [(4, .int (zi 0)), (3, .int (zi 0)), (2, .int (zi (τ 13 k 0))), (0, .ref (ad 0 0)), (1, .int (zi k))]) hx hb dX8_thaw_81 hl (by decide) rfl (fun ls hl => ?_)
    have loop_83 : ∀ (fuel : Nat) (i : Int) (co : Int), τ 27 0 0 - i < (fuel : Int) → (0 ≤ i ∧ i ≤ τ 27 0 0) → (co = thC τ k i) → ∀ (H : Heap) (locs : List Loc), WP Dg mcnt ad (mE cA ad (thM τ k i)) H → va_S (WA mcnt ad s₀.heap.size) s₀.heap H locs → ∀ ls : Array Slot, lv_has ls 5 [(4, .int (zi i)), (3, .int (zi co)), (2, .int (zi (τ 13 k 0))), (0, .ref (ad 0 0)), (1, .int (zi k))] → W pgm l env ({ frames := 2, cells := 0, slots := 0, locals := 43 } : Room) s₀ m₀ ([.ref (ad 0 0), .int (zi k)] : List Value).toArray bel mth cod H locs 0 0 (MQ bel (va_Qi (fun (rr : Int32) (_ : Unit) => rr = zi (aThaw τ k)) (gB Dg mcnt ad (mE cA ad (fThaw τ k))) (WA mcnt ad s₀.heap.size)) ([.ref (ad 0 0), .int (zi k)] : List Value).toArray s₀ 0 0 (WA mcnt ad s₀.heap.size)) (F0 m₀ 83 ls []) := by
      intro fuel
      induction fuel with
      | zero => intro i co hn i1 i2; exact absurd hn (by omega)
      | succ fuel ih_83 =>
        intro i co hn i1 i2 H locs hW hS ls hl
        obtain ⟨σ5, hσ5⟩ : ∃ z, z = thM τ k i := ⟨_, rfl⟩
        rw [← hσ5] at hW
        refine lv_iload hx hb dX8_thaw_83 (lv_at hl 0 rfl) ?_
        refine lv_aload_n hx hb dX8_thaw_85 rfl (lv_at hl 3 rfl) ?_
        refine mg_kiosks_f hC hW hin_X8 hl_100 (by rw [hσ5, thM_T _ _ _ 27 (by decide)]) dX8_thaw_86 ?_
        refine k_icmp_ge (tgt := 132) hC dX8_thaw_89 (by decide) (by omega) (fun c4 => ?_) (fun c4 => ?_)
        · refine lv_iload_n hx hb dX8_thaw_132 rfl (lv_at hl 1 rfl) ?_
          have hW : WP Dg mcnt ad (mE cA ad (fThaw τ k)) _ := (sw hW (by rw [hσ5]; exact thM_end (by omega)))
          exact k_iret hX (by rw [i2]; exact thC_end (by omega)) hW hS dX8_thaw_133
        · refine lv_iload_n hx hb dX8_thaw_92 rfl (lv_at hl 2 rfl) ?_
          refine k_if_eq (tgt := 132) hC dX8_thaw_93 (by decide) (by omega) (fun c5 => ?_) (fun c5 => ?_)
          · refine lv_iload_n hx hb dX8_thaw_132 rfl (lv_at hl 1 rfl) ?_
            have hW : WP Dg mcnt ad (mE cA ad (fThaw τ k)) _ := (sw hW (by rw [hσ5]; exact thM_end (by omega)))
            exact k_iret hX (by rw [i2]; exact thC_end (by omega)) hW hS dX8_thaw_133
          · have hJ : Inv N M σ5 := by rw [hσ5]; exact Inv_thM hv hM hk (by omega)
            have hSi := hJ.S i (by omega) (by omega)
            have e6i : σ5 6 i 0 = τ 6 i 0 := by rw [hσ5, thM_T _ _ _ 6 (by decide)]
            refine lv_aload_n hx hb dX8_thaw_96 rfl (lv_at hl 3 rfl) ?_
            refine mg_hasPlayer hC hW hin_X8 hl_34 dX8_thaw_97 ?_
            refine lv_iload hx hb dX8_thaw_100 (lv_at hl 0 rfl) ?_
            refine ma_hasPlayer hC hW (by omega) (v := τ 6 i 0) (by rw [hσ5, thM_T _ _ _ 6 (by decide)]) dX8_thaw_102 ?_
            refine k_if_eq (tgt := 126) hC dX8_thaw_103 (by decide) (by omega) (fun c6 => ?_) (fun c6 => ?_)
            · have hno := thM_no (σ := τ) (k := k) (i := i) (by omega) i1.1 (by rw [← hσ5]; omega)
              refine k_iinc (a := i) (lv' := [(4, .int (zi (i + 1))), (3, .int (zi co)), (2, .int (zi (τ 13 k 0))), (0, .ref (ad 0 0)), (1, .int (zi k))]) hC dX8_thaw_126 hl (k := 0) rfl (by decide) rfl (fun ls hl => ?_)
              refine lv_goto (tgt := 83) hx hb dX8_thaw_129 (by decide) ?_
              have hl := Eq.mp (congrArg (fun z : Int => lv_has ls 5 [(4, .int (zi z)), (3, .int (zi co)), (2, .int (zi (τ 13 k 0))), (0, .ref (ad 0 0)), (1, .int (zi k))]) (show (i + 1 : Int) = (i + 1) by omega)) hl
              exact ih_83 (i + 1) co (by omega) (by omega) (by have z := hno.2; omega) _ _ (sw hW (by rw [hσ5]; exact hno.1)) hS _ (lv_sub hl [0, 1, 2, 3, 4] rfl)
            · refine lv_aload_n hx hb dX8_thaw_106 rfl (lv_at hl 3 rfl) ?_
              refine mg_at hC hW hin_X8 hl_47 dX8_thaw_107 ?_
              refine lv_iload hx hb dX8_thaw_110 (lv_at hl 0 rfl) ?_
              refine ma_at hC hW (by omega) (v := σ5 8 i 0) rfl dX8_thaw_112 ?_
              refine k_if_ge (tgt := 126) hC dX8_thaw_113 (by decide) (by omega) (fun c7 => ?_) (fun c7 => ?_)
              · have hno := thM_no (σ := τ) (k := k) (i := i) (by omega) i1.1 (by rw [← hσ5]; omega)
                refine k_iinc (a := i) (lv' := [(4, .int (zi (i + 1))), (3, .int (zi co)), (2, .int (zi (τ 13 k 0))), (0, .ref (ad 0 0)), (1, .int (zi k))]) hC dX8_thaw_126 hl (k := 0) rfl (by decide) rfl (fun ls hl => ?_)
                refine lv_goto (tgt := 83) hx hb dX8_thaw_129 (by decide) ?_
                have hl := Eq.mp (congrArg (fun z : Int => lv_has ls 5 [(4, .int (zi z)), (3, .int (zi co)), (2, .int (zi (τ 13 k 0))), (0, .ref (ad 0 0)), (1, .int (zi k))]) (show (i + 1 : Int) = (i + 1) by omega)) hl
                exact ih_83 (i + 1) co (by omega) (by omega) (by have z := hno.2; omega) _ _ (sw hW (by rw [hσ5]; exact hno.1)) hS _ (lv_sub hl [0, 1, 2, 3, 4] rfl)
              · have hgo := thM_go (σ := τ) (k := k) (i := i) (by omega) i1.1 (by rw [← hσ5]; omega)
                refine lv_aload_n hx hb dX8_thaw_116 rfl (lv_at hl 3 rfl) ?_
                refine lv_iload hx hb dX8_thaw_117 (lv_at hl 0 rfl) ?_
                refine lv_iload_n hx hb dX8_thaw_119 rfl (lv_at hl 4 rfl) ?_
                refine k_callV (As := [.int (zi i), .int (zi k)]) (rest := []) hX hl.1 (n_comesTo hI σ5 i k (by omega) (by omega) (fun z => ⟨(hJ.W k (by omega) (by omega)).1.1, room_of (p := i) hJ (by omega) hk6 (by omega)⟩)) (cwV 2 hts gX8_thaw_X8_comesTo rfl rfl rfl (by decide +kernel) ⟨Nat.le_of_ble_eq_true rfl, Nat.le_of_ble_eq_true rfl⟩) (rc_M hC hW) hW hS ⟨Nat.zero_le _, Nat.zero_le _⟩ rfl rfl (Nat.le_of_ble_eq_true rfl) dX8_thaw_120 (fun H locs hW hS _ _ => ?_)
                obtain ⟨σ6, hσ6⟩ : ∃ z, z = fCome σ5 i k := ⟨_, rfl⟩
                rw [← hσ6] at hW
                refine k_iinc (a := co) (lv' := [(3, .int (zi (co + 1))), (4, .int (zi i)), (2, .int (zi (τ 13 k 0))), (0, .ref (ad 0 0)), (1, .int (zi k))]) hC dX8_thaw_123 hl (k := 1) rfl (by decide) rfl (fun ls hl => ?_)
                refine k_iinc (a := i) (lv' := [(4, .int (zi (i + 1))), (3, .int (zi (co + 1))), (2, .int (zi (τ 13 k 0))), (0, .ref (ad 0 0)), (1, .int (zi k))]) hC dX8_thaw_126 hl (k := 1) rfl (by decide) rfl (fun ls hl => ?_)
                refine lv_goto (tgt := 83) hx hb dX8_thaw_129 (by decide) ?_
                have hl := Eq.mp (congrArg (fun z : Int => lv_has ls 5 [(4, .int (zi z)), (3, .int (zi (co + 1))), (2, .int (zi (τ 13 k 0))), (0, .ref (ad 0 0)), (1, .int (zi k))]) (show (i + 1 : Int) = (i + 1) by omega)) hl
                have hl := Eq.mp (congrArg (fun z : Int => lv_has ls 5 [(4, .int (zi (i + 1))), (3, .int (zi z)), (2, .int (zi (τ 13 k 0))), (0, .ref (ad 0 0)), (1, .int (zi k))]) (show (co + 1 : Int) = (co + 1) by omega)) hl
                exact ih_83 (i + 1) (co + 1) (by omega) (by omega) (by have z := hgo.2; omega) _ _ (sw hW (by rw [hσ6, hσ5]; exact hgo.1)) hS _ (lv_sub hl [0, 1, 2, 3, 4] rfl)
    exact loop_83 (Int.toNat (τ 27 0 0 - 0) + 1) 0 0 (by omega) (by omega) (by first | exact (thM_0 (by omega)).2.symm | (rw [(thM_1 (by omega) (by omega)).2]; rfl)) _ _ (sw hW (by rw [hσ4]; exact (thM_0 (by omega)).1.symm)) hS _ (lv_sub hl [0, 1, 2, 3, 4] rfl)
  · have f6 : σ4 6 k 0 = τ 6 k 0 := by rw [hσ4]; exact at1 (fThaw0_T τ k) (t := 6) (by decide) k 0
    refine lv_aload_n hx hb dX8_thaw_57 rfl (lv_at hl 2 rfl) ?_
    refine mg_hasPlayer hC hW hin_X8 hl_34 dX8_thaw_58 ?_
    refine lv_iload_n hx hb dX8_thaw_61 rfl (lv_at hl 3 rfl) ?_
    refine ma_hasPlayer hC hW (by omega) (v := σ4 6 k 0) rfl dX8_thaw_62 ?_
    refine k_if_eq (tgt := 80) hC dX8_thaw_63 (by decide) (by omega) (fun c8 => ?_) (fun c8 => ?_)
    · refine k_iconst hC dX8_thaw_80 ?_
      refine lv_istore (lv' := [(4, .int (zi 0)), (3, .int (zi 0)), (2, .int (zi (τ 13 k 0))), (0, .ref (ad 0 0)), (1, .int (zi k))]) hx hb dX8_thaw_81 hl (by decide) rfl (fun ls hl => ?_)
      have loop_83 : ∀ (fuel : Nat) (i : Int) (co : Int), τ 27 0 0 - i < (fuel : Int) → (0 ≤ i ∧ i ≤ τ 27 0 0) → (co = thC τ k i) → ∀ (H : Heap) (locs : List Loc), WP Dg mcnt ad (mE cA ad (thM τ k i)) H → va_S (WA mcnt ad s₀.heap.size) s₀.heap H locs → ∀ ls : Array Slot, lv_has ls 5 [(4, .int (zi i)), (3, .int (zi co)), (2, .int (zi (τ 13 k 0))), (0, .ref (ad 0 0)), (1, .int (zi k))] → W pgm l env ({ frames := 2, cells := 0, slots := 0, locals := 43 } : Room) s₀ m₀ ([.ref (ad 0 0), .int (zi k)] : List Value).toArray bel mth cod H locs 0 0 (MQ bel (va_Qi (fun (rr : Int32) (_ : Unit) => rr = zi (aThaw τ k)) (gB Dg mcnt ad (mE cA ad (fThaw τ k))) (WA mcnt ad s₀.heap.size)) ([.ref (ad 0 0), .int (zi k)] : List Value).toArray s₀ 0 0 (WA mcnt ad s₀.heap.size)) (F0 m₀ 83 ls []) := by
        intro fuel
        induction fuel with
        | zero => intro i co hn i1 i2; exact absurd hn (by omega)
        | succ fuel ih_83 =>
          intro i co hn i1 i2 H locs hW hS ls hl
          obtain ⟨σ7, hσ7⟩ : ∃ z, z = thM τ k i := ⟨_, rfl⟩
          rw [← hσ7] at hW
          refine lv_iload hx hb dX8_thaw_83 (lv_at hl 0 rfl) ?_
          refine lv_aload_n hx hb dX8_thaw_85 rfl (lv_at hl 3 rfl) ?_
          refine mg_kiosks_f hC hW hin_X8 hl_100 (by rw [hσ7, thM_T _ _ _ 27 (by decide)]) dX8_thaw_86 ?_
          refine k_icmp_ge (tgt := 132) hC dX8_thaw_89 (by decide) (by omega) (fun c9 => ?_) (fun c9 => ?_)
          · refine lv_iload_n hx hb dX8_thaw_132 rfl (lv_at hl 1 rfl) ?_
            have hW : WP Dg mcnt ad (mE cA ad (fThaw τ k)) _ := (sw hW (by rw [hσ7]; exact thM_end (by omega)))
            exact k_iret hX (by rw [i2]; exact thC_end (by omega)) hW hS dX8_thaw_133
          · refine lv_iload_n hx hb dX8_thaw_92 rfl (lv_at hl 2 rfl) ?_
            refine k_if_eq (tgt := 132) hC dX8_thaw_93 (by decide) (by omega) (fun c10 => ?_) (fun c10 => ?_)
            · refine lv_iload_n hx hb dX8_thaw_132 rfl (lv_at hl 1 rfl) ?_
              have hW : WP Dg mcnt ad (mE cA ad (fThaw τ k)) _ := (sw hW (by rw [hσ7]; exact thM_end (by omega)))
              exact k_iret hX (by rw [i2]; exact thC_end (by omega)) hW hS dX8_thaw_133
            · have hJ : Inv N M σ7 := by rw [hσ7]; exact Inv_thM hv hM hk (by omega)
              have hSi := hJ.S i (by omega) (by omega)
              have e6i : σ7 6 i 0 = τ 6 i 0 := by rw [hσ7, thM_T _ _ _ 6 (by decide)]
              refine lv_aload_n hx hb dX8_thaw_96 rfl (lv_at hl 3 rfl) ?_
              refine mg_hasPlayer hC hW hin_X8 hl_34 dX8_thaw_97 ?_
              refine lv_iload hx hb dX8_thaw_100 (lv_at hl 0 rfl) ?_
              refine ma_hasPlayer hC hW (by omega) (v := τ 6 i 0) (by rw [hσ7, thM_T _ _ _ 6 (by decide)]) dX8_thaw_102 ?_
              refine k_if_eq (tgt := 126) hC dX8_thaw_103 (by decide) (by omega) (fun c11 => ?_) (fun c11 => ?_)
              · have hno := thM_no (σ := τ) (k := k) (i := i) (by omega) i1.1 (by rw [← hσ7]; omega)
                refine k_iinc (a := i) (lv' := [(4, .int (zi (i + 1))), (3, .int (zi co)), (2, .int (zi (τ 13 k 0))), (0, .ref (ad 0 0)), (1, .int (zi k))]) hC dX8_thaw_126 hl (k := 0) rfl (by decide) rfl (fun ls hl => ?_)
                refine lv_goto (tgt := 83) hx hb dX8_thaw_129 (by decide) ?_
                have hl := Eq.mp (congrArg (fun z : Int => lv_has ls 5 [(4, .int (zi z)), (3, .int (zi co)), (2, .int (zi (τ 13 k 0))), (0, .ref (ad 0 0)), (1, .int (zi k))]) (show (i + 1 : Int) = (i + 1) by omega)) hl
                exact ih_83 (i + 1) co (by omega) (by omega) (by have z := hno.2; omega) _ _ (sw hW (by rw [hσ7]; exact hno.1)) hS _ (lv_sub hl [0, 1, 2, 3, 4] rfl)
              · refine lv_aload_n hx hb dX8_thaw_106 rfl (lv_at hl 3 rfl) ?_
                refine mg_at hC hW hin_X8 hl_47 dX8_thaw_107 ?_
                refine lv_iload hx hb dX8_thaw_110 (lv_at hl 0 rfl) ?_
                refine ma_at hC hW (by omega) (v := σ7 8 i 0) rfl dX8_thaw_112 ?_
                refine k_if_ge (tgt := 126) hC dX8_thaw_113 (by decide) (by omega) (fun c12 => ?_) (fun c12 => ?_)
                · have hno := thM_no (σ := τ) (k := k) (i := i) (by omega) i1.1 (by rw [← hσ7]; omega)
                  refine k_iinc (a := i) (lv' := [(4, .int (zi (i + 1))), (3, .int (zi co)), (2, .int (zi (τ 13 k 0))), (0, .ref (ad 0 0)), (1, .int (zi k))]) hC dX8_thaw_126 hl (k := 0) rfl (by decide) rfl (fun ls hl => ?_)
                  refine lv_goto (tgt := 83) hx hb dX8_thaw_129 (by decide) ?_
                  have hl := Eq.mp (congrArg (fun z : Int => lv_has ls 5 [(4, .int (zi z)), (3, .int (zi co)), (2, .int (zi (τ 13 k 0))), (0, .ref (ad 0 0)), (1, .int (zi k))]) (show (i + 1 : Int) = (i + 1) by omega)) hl
                  exact ih_83 (i + 1) co (by omega) (by omega) (by have z := hno.2; omega) _ _ (sw hW (by rw [hσ7]; exact hno.1)) hS _ (lv_sub hl [0, 1, 2, 3, 4] rfl)
                · have hgo := thM_go (σ := τ) (k := k) (i := i) (by omega) i1.1 (by rw [← hσ7]; omega)
                  refine lv_aload_n hx hb dX8_thaw_116 rfl (lv_at hl 3 rfl) ?_
                  refine lv_iload hx hb dX8_thaw_117 (lv_at hl 0 rfl) ?_
                  refine lv_iload_n hx hb dX8_thaw_119 rfl (lv_at hl 4 rfl) ?_
                  refine k_callV (As := [.int (zi i), .int (zi k)]) (rest := []) hX hl.1 (n_comesTo hI σ7 i k (by omega) (by omega) (fun z => ⟨(hJ.W k (by omega) (by omega)).1.1, room_of (p := i) hJ (by omega) hk6 (by omega)⟩)) (cwV 2 hts gX8_thaw_X8_comesTo rfl rfl rfl (by decide +kernel) ⟨Nat.le_of_ble_eq_true rfl, Nat.le_of_ble_eq_true rfl⟩) (rc_M hC hW) hW hS ⟨Nat.zero_le _, Nat.zero_le _⟩ rfl rfl (Nat.le_of_ble_eq_true rfl) dX8_thaw_120 (fun H locs hW hS _ _ => ?_)
                  obtain ⟨σ8, hσ8⟩ : ∃ z, z = fCome σ7 i k := ⟨_, rfl⟩
                  rw [← hσ8] at hW
                  refine k_iinc (a := co) (lv' := [(3, .int (zi (co + 1))), (4, .int (zi i)), (2, .int (zi (τ 13 k 0))), (0, .ref (ad 0 0)), (1, .int (zi k))]) hC dX8_thaw_123 hl (k := 1) rfl (by decide) rfl (fun ls hl => ?_)
                  refine k_iinc (a := i) (lv' := [(4, .int (zi (i + 1))), (3, .int (zi (co + 1))), (2, .int (zi (τ 13 k 0))), (0, .ref (ad 0 0)), (1, .int (zi k))]) hC dX8_thaw_126 hl (k := 1) rfl (by decide) rfl (fun ls hl => ?_)
                  refine lv_goto (tgt := 83) hx hb dX8_thaw_129 (by decide) ?_
                  have hl := Eq.mp (congrArg (fun z : Int => lv_has ls 5 [(4, .int (zi z)), (3, .int (zi (co + 1))), (2, .int (zi (τ 13 k 0))), (0, .ref (ad 0 0)), (1, .int (zi k))]) (show (i + 1 : Int) = (i + 1) by omega)) hl
                  have hl := Eq.mp (congrArg (fun z : Int => lv_has ls 5 [(4, .int (zi (i + 1))), (3, .int (zi z)), (2, .int (zi (τ 13 k 0))), (0, .ref (ad 0 0)), (1, .int (zi k))]) (show (co + 1 : Int) = (co + 1) by omega)) hl
                  exact ih_83 (i + 1) (co + 1) (by omega) (by omega) (by have z := hgo.2; omega) _ _ (sw hW (by rw [hσ8, hσ7]; exact hgo.1)) hS _ (lv_sub hl [0, 1, 2, 3, 4] rfl)
      exact loop_83 (Int.toNat (τ 27 0 0 - 0) + 1) 0 0 (by omega) (by omega) (by first | exact (thM_0 (by omega)).2.symm | (rw [(thM_1 (by omega) (by omega)).2]; rfl)) _ _ (sw hW (by rw [hσ4]; exact (thM_0 (by omega)).1.symm)) hS _ (lv_sub hl [0, 1, 2, 3, 4] rfl)
    · refine lv_aload_n hx hb dX8_thaw_66 rfl (lv_at hl 2 rfl) ?_
      refine lv_iload_n hx hb dX8_thaw_67 rfl (lv_at hl 3 rfl) ?_
      refine k_callV (As := [.int (zi k)]) (rest := []) hX hl.1 (n_leaves hI σ4 k hk6 (by rw [hσ4]; exact hT0.W) (by rw [hσ4]; have z := hT0.S k hk6.1 hk6.2; omega) (by rw [hσ4]; exact fun z => (mem_rows hT0 hk6 z).2)) (cwV 1 hts gX8_thaw_X8_leaves rfl rfl rfl (by decide +kernel) ⟨Nat.le_of_ble_eq_true rfl, Nat.le_of_ble_eq_true rfl⟩) (rc_M hC hW) hW hS ⟨Nat.zero_le _, Nat.zero_le _⟩ rfl rfl (Nat.le_of_ble_eq_true rfl) dX8_thaw_68 (fun H locs hW hS _ _ => ?_)
      obtain ⟨σ9, hσ9⟩ : ∃ z, z = gLeave σ4 k := ⟨_, rfl⟩
      rw [← hσ9] at hW
      refine lv_aload_n hx hb dX8_thaw_71 rfl (lv_at hl 2 rfl) ?_
      refine lv_iload_n hx hb dX8_thaw_72 rfl (lv_at hl 3 rfl) ?_
      refine lv_iload_n hx hb dX8_thaw_73 rfl (lv_at hl 3 rfl) ?_
      refine k_callV (As := [.int (zi k), .int (zi k)]) (rest := []) hX hl.1 (n_comesTo hI σ9 k k hk6 (by omega) (fun z => by rw [hσ9, hσ4]; exact gLeave_room hT0 hk6 hk6)) (cwV 2 hts gX8_thaw_X8_comesTo rfl rfl rfl (by decide +kernel) ⟨Nat.le_of_ble_eq_true rfl, Nat.le_of_ble_eq_true rfl⟩) (rc_M hC hW) hW hS ⟨Nat.zero_le _, Nat.zero_le _⟩ rfl rfl (Nat.le_of_ble_eq_true rfl) dX8_thaw_74 (fun H locs hW hS _ _ => ?_)
      obtain ⟨σ10, hσ10⟩ : ∃ z, z = fCome σ9 k k := ⟨_, rfl⟩
      rw [← hσ10] at hW
      refine k_iinc (a := 0) (lv' := [(3, .int (zi (0 + 1))), (2, .int (zi (τ 13 k 0))), (0, .ref (ad 0 0)), (1, .int (zi k))]) hC dX8_thaw_77 hl (k := 0) rfl (by decide) rfl (fun ls hl => ?_)
      refine k_iconst hC dX8_thaw_80 ?_
      refine lv_istore (lv' := [(4, .int (zi 0)), (3, .int (zi (0 + 1))), (2, .int (zi (τ 13 k 0))), (0, .ref (ad 0 0)), (1, .int (zi k))]) hx hb dX8_thaw_81 hl (by decide) rfl (fun ls hl => ?_)
      have loop_83 : ∀ (fuel : Nat) (i : Int) (co : Int), τ 27 0 0 - i < (fuel : Int) → (0 ≤ i ∧ i ≤ τ 27 0 0) → (co = thC τ k i) → ∀ (H : Heap) (locs : List Loc), WP Dg mcnt ad (mE cA ad (thM τ k i)) H → va_S (WA mcnt ad s₀.heap.size) s₀.heap H locs → ∀ ls : Array Slot, lv_has ls 5 [(4, .int (zi i)), (3, .int (zi co)), (2, .int (zi (τ 13 k 0))), (0, .ref (ad 0 0)), (1, .int (zi k))] → W pgm l env ({ frames := 2, cells := 0, slots := 0, locals := 43 } : Room) s₀ m₀ ([.ref (ad 0 0), .int (zi k)] : List Value).toArray bel mth cod H locs 0 0 (MQ bel (va_Qi (fun (rr : Int32) (_ : Unit) => rr = zi (aThaw τ k)) (gB Dg mcnt ad (mE cA ad (fThaw τ k))) (WA mcnt ad s₀.heap.size)) ([.ref (ad 0 0), .int (zi k)] : List Value).toArray s₀ 0 0 (WA mcnt ad s₀.heap.size)) (F0 m₀ 83 ls []) := by
        intro fuel
        induction fuel with
        | zero => intro i co hn i1 i2; exact absurd hn (by omega)
        | succ fuel ih_83 =>
          intro i co hn i1 i2 H locs hW hS ls hl
          obtain ⟨σ11, hσ11⟩ : ∃ z, z = thM τ k i := ⟨_, rfl⟩
          rw [← hσ11] at hW
          refine lv_iload hx hb dX8_thaw_83 (lv_at hl 0 rfl) ?_
          refine lv_aload_n hx hb dX8_thaw_85 rfl (lv_at hl 3 rfl) ?_
          refine mg_kiosks_f hC hW hin_X8 hl_100 (by rw [hσ11, thM_T _ _ _ 27 (by decide)]) dX8_thaw_86 ?_
          refine k_icmp_ge (tgt := 132) hC dX8_thaw_89 (by decide) (by omega) (fun c13 => ?_) (fun c13 => ?_)
          · refine lv_iload_n hx hb dX8_thaw_132 rfl (lv_at hl 1 rfl) ?_
            have hW : WP Dg mcnt ad (mE cA ad (fThaw τ k)) _ := (sw hW (by rw [hσ11]; exact thM_end (by omega)))
            exact k_iret hX (by rw [i2]; exact thC_end (by omega)) hW hS dX8_thaw_133
          · refine lv_iload_n hx hb dX8_thaw_92 rfl (lv_at hl 2 rfl) ?_
            refine k_if_eq (tgt := 132) hC dX8_thaw_93 (by decide) (by omega) (fun c14 => ?_) (fun c14 => ?_)
            · refine lv_iload_n hx hb dX8_thaw_132 rfl (lv_at hl 1 rfl) ?_
              have hW : WP Dg mcnt ad (mE cA ad (fThaw τ k)) _ := (sw hW (by rw [hσ11]; exact thM_end (by omega)))
              exact k_iret hX (by rw [i2]; exact thC_end (by omega)) hW hS dX8_thaw_133
            · have hJ : Inv N M σ11 := by rw [hσ11]; exact Inv_thM hv hM hk (by omega)
              have hSi := hJ.S i (by omega) (by omega)
              have e6i : σ11 6 i 0 = τ 6 i 0 := by rw [hσ11, thM_T _ _ _ 6 (by decide)]
              refine lv_aload_n hx hb dX8_thaw_96 rfl (lv_at hl 3 rfl) ?_
              refine mg_hasPlayer hC hW hin_X8 hl_34 dX8_thaw_97 ?_
              refine lv_iload hx hb dX8_thaw_100 (lv_at hl 0 rfl) ?_
              refine ma_hasPlayer hC hW (by omega) (v := τ 6 i 0) (by rw [hσ11, thM_T _ _ _ 6 (by decide)]) dX8_thaw_102 ?_
              refine k_if_eq (tgt := 126) hC dX8_thaw_103 (by decide) (by omega) (fun c15 => ?_) (fun c15 => ?_)
              · have hno := thM_no (σ := τ) (k := k) (i := i) (by omega) i1.1 (by rw [← hσ11]; omega)
                refine k_iinc (a := i) (lv' := [(4, .int (zi (i + 1))), (3, .int (zi co)), (2, .int (zi (τ 13 k 0))), (0, .ref (ad 0 0)), (1, .int (zi k))]) hC dX8_thaw_126 hl (k := 0) rfl (by decide) rfl (fun ls hl => ?_)
                refine lv_goto (tgt := 83) hx hb dX8_thaw_129 (by decide) ?_
                have hl := Eq.mp (congrArg (fun z : Int => lv_has ls 5 [(4, .int (zi z)), (3, .int (zi co)), (2, .int (zi (τ 13 k 0))), (0, .ref (ad 0 0)), (1, .int (zi k))]) (show (i + 1 : Int) = (i + 1) by omega)) hl
                exact ih_83 (i + 1) co (by omega) (by omega) (by have z := hno.2; omega) _ _ (sw hW (by rw [hσ11]; exact hno.1)) hS _ (lv_sub hl [0, 1, 2, 3, 4] rfl)
              · refine lv_aload_n hx hb dX8_thaw_106 rfl (lv_at hl 3 rfl) ?_
                refine mg_at hC hW hin_X8 hl_47 dX8_thaw_107 ?_
                refine lv_iload hx hb dX8_thaw_110 (lv_at hl 0 rfl) ?_
                refine ma_at hC hW (by omega) (v := σ11 8 i 0) rfl dX8_thaw_112 ?_
                refine k_if_ge (tgt := 126) hC dX8_thaw_113 (by decide) (by omega) (fun c16 => ?_) (fun c16 => ?_)
                · have hno := thM_no (σ := τ) (k := k) (i := i) (by omega) i1.1 (by rw [← hσ11]; omega)
                  refine k_iinc (a := i) (lv' := [(4, .int (zi (i + 1))), (3, .int (zi co)), (2, .int (zi (τ 13 k 0))), (0, .ref (ad 0 0)), (1, .int (zi k))]) hC dX8_thaw_126 hl (k := 0) rfl (by decide) rfl (fun ls hl => ?_)
                  refine lv_goto (tgt := 83) hx hb dX8_thaw_129 (by decide) ?_
                  have hl := Eq.mp (congrArg (fun z : Int => lv_has ls 5 [(4, .int (zi z)), (3, .int (zi co)), (2, .int (zi (τ 13 k 0))), (0, .ref (ad 0 0)), (1, .int (zi k))]) (show (i + 1 : Int) = (i + 1) by omega)) hl
                  exact ih_83 (i + 1) co (by omega) (by omega) (by have z := hno.2; omega) _ _ (sw hW (by rw [hσ11]; exact hno.1)) hS _ (lv_sub hl [0, 1, 2, 3, 4] rfl)
                · have hgo := thM_go (σ := τ) (k := k) (i := i) (by omega) i1.1 (by rw [← hσ11]; omega)
                  refine lv_aload_n hx hb dX8_thaw_116 rfl (lv_at hl 3 rfl) ?_
                  refine lv_iload hx hb dX8_thaw_117 (lv_at hl 0 rfl) ?_
                  refine lv_iload_n hx hb dX8_thaw_119 rfl (lv_at hl 4 rfl) ?_
                  refine k_callV (As := [.int (zi i), .int (zi k)]) (rest := []) hX hl.1 (n_comesTo hI σ11 i k (by omega) (by omega) (fun z => ⟨(hJ.W k (by omega) (by omega)).1.1, room_of (p := i) hJ (by omega) hk6 (by omega)⟩)) (cwV 2 hts gX8_thaw_X8_comesTo rfl rfl rfl (by decide +kernel) ⟨Nat.le_of_ble_eq_true rfl, Nat.le_of_ble_eq_true rfl⟩) (rc_M hC hW) hW hS ⟨Nat.zero_le _, Nat.zero_le _⟩ rfl rfl (Nat.le_of_ble_eq_true rfl) dX8_thaw_120 (fun H locs hW hS _ _ => ?_)
                  obtain ⟨σ12, hσ12⟩ : ∃ z, z = fCome σ11 i k := ⟨_, rfl⟩
                  rw [← hσ12] at hW
                  refine k_iinc (a := co) (lv' := [(3, .int (zi (co + 1))), (4, .int (zi i)), (2, .int (zi (τ 13 k 0))), (0, .ref (ad 0 0)), (1, .int (zi k))]) hC dX8_thaw_123 hl (k := 1) rfl (by decide) rfl (fun ls hl => ?_)
                  refine k_iinc (a := i) (lv' := [(4, .int (zi (i + 1))), (3, .int (zi (co + 1))), (2, .int (zi (τ 13 k 0))), (0, .ref (ad 0 0)), (1, .int (zi k))]) hC dX8_thaw_126 hl (k := 1) rfl (by decide) rfl (fun ls hl => ?_)
                  refine lv_goto (tgt := 83) hx hb dX8_thaw_129 (by decide) ?_
                  have hl := Eq.mp (congrArg (fun z : Int => lv_has ls 5 [(4, .int (zi z)), (3, .int (zi (co + 1))), (2, .int (zi (τ 13 k 0))), (0, .ref (ad 0 0)), (1, .int (zi k))]) (show (i + 1 : Int) = (i + 1) by omega)) hl
                  have hl := Eq.mp (congrArg (fun z : Int => lv_has ls 5 [(4, .int (zi (i + 1))), (3, .int (zi z)), (2, .int (zi (τ 13 k 0))), (0, .ref (ad 0 0)), (1, .int (zi k))]) (show (co + 1 : Int) = (co + 1) by omega)) hl
                  exact ih_83 (i + 1) (co + 1) (by omega) (by omega) (by have z := hgo.2; omega) _ _ (sw hW (by rw [hσ12, hσ11]; exact hgo.1)) hS _ (lv_sub hl [0, 1, 2, 3, 4] rfl)
      have hl := Eq.mp (congrArg (fun z : Int => lv_has ls 5 [(4, .int (zi 0)), (3, .int (zi z)), (2, .int (zi (τ 13 k 0))), (0, .ref (ad 0 0)), (1, .int (zi k))]) (show (0 + 1 : Int) = (0 + 1) by omega)) hl
      exact loop_83 (Int.toNat (τ 27 0 0 - 0) + 1) 0 (0 + 1) (by omega) (by omega) (by first | exact (thM_0 (by omega)).2.symm | (rw [(thM_1 (by omega) (by omega)).2]; rfl)) _ _ (sw hW (by rw [hσ10, hσ9, hσ4, settle_g]; exact (thM_1 (by omega) (by omega)).1.symm)) hS _ (lv_sub hl [0, 1, 2, 3, 4] rfl)
end M10
