section M9
set_option maxHeartbeats 1000000 in
set_option maxRecDepth 100000 in
theorem n_list {l : Launch} {Dg : va_G} {cA : Nat → ClassId} {ad : Nat → Int → Nat} {oc : Nat → Nat} (hI : WI mcnt ad) {τ : St} (σ : St) (hτ : τ = ups σ 31 0 0 0) (h1 : 0 ≤ τ 26 0 0 ∧ τ 26 0 0 < 8) : GI l yX8_list wsX8_list ({ frames := 1, cells := 0, slots := 0, locals := 22 } : Room) Dg cA mcnt ad oc (mE cA ad σ) [.ref (ad 0 0)] (τ 26 0 0) (mE cA ad (ups τ 26 0 0 (τ 26 0 0 + 1))) := by
  intro sz
  refine g_ent (cc := cX8_list) (maxL := 1) (ret := (some .int)) (by decide) rfl hI (Nat.le_of_ble_eq_true rfl) ?_
  intro pgm env s₀ m₀ bel mth cod hX hW hS hsz ls hl
  subst hsz
  have hC := hX.1
  have hx := hC.1
  have hb := hC.2.1
  have hts := hC.2.2.2.1
  have hl : lv_has ls 1 [(0, .ref (ad 0 0))] := hl
  have hin_X8 : ∀ w ∈ wsX80, w ∈ wsX8_list := by decide +kernel
  have hl_93 := hts (.fieldLink RX8 93 "KioskReelModel" "lists" "I") (by decide +kernel)
  have eσ : ∀ (t : Nat) (i j : Int), t ≠ 31 → σ t i j = τ t i j := fun t i j h => by rw [hτ, ups_t _ h]
  have e26 := eσ 26 0 0 (by decide)
  have e27 := eσ 27 0 0 (by decide)
  have e28 := eσ 28 0 0 (by decide)
  refine lv_aload_n hx hb dX8_list_0 rfl (lv_at hl 0 rfl) ?_
  refine lv_aload_n hx hb dX8_list_1 rfl (lv_at hl 0 rfl) ?_
  refine mg_lists_f hC hW hin_X8 hl_93 (v := σ 26 0 0) rfl dX8_list_2 ?_
  refine k_bipush hC dX8_list_5 (by decide) ?_
  refine k_icmp_ne (tgt := 14) hC dX8_list_7 (by decide) (by omega) (fun c1 => ?_) (fun c1 => absurd c1 (by omega))
  refine k_iconst hC dX8_list_14 ?_
  refine k_iconst hC dX8_list_15 ?_
  refine k_callI (As := [.int (zi 0), .int (zi 1)]) (rest := []) hX hl.1 (n_thr0 hI σ 1 (by omega)) (cwV 2 hts gX8_list_X8_isThrown rfl rfl rfl (by decide +kernel) ⟨Nat.le_of_ble_eq_true rfl, Nat.le_of_ble_eq_true rfl⟩) (rc_M hC hW) hW hS ⟨Nat.zero_le _, Nat.zero_le _⟩ rfl rfl (Nat.le_of_ble_eq_true rfl) dX8_list_16 (fun H locs hW hS _ _ => ?_)
  have hW : WP Dg mcnt ad (mE cA ad τ) _ := (sw hW hτ.symm)
  refine k_if_eq (tgt := 24) hC dX8_list_19 (by decide) (by omega) (fun c2 => ?_) (fun c2 => absurd c2 (by omega))
  refine lv_aload_n hx hb dX8_list_24 rfl (lv_at hl 0 rfl) ?_
  refine lv_dup hx hb dX8_list_25 rfl ?_
  refine mg_lists_f hC hW hin_X8 hl_93 (v := τ 26 0 0) rfl dX8_list_26 ?_
  refine k_iconst hC dX8_list_29 ?_
  refine k_iadd hC dX8_list_30 ?_
  refine mp_lists_f hC hW hin_X8 hl_93 hS dX8_list_31 (fun H locs hW hS => ?_)
  obtain ⟨σ1, hσ1⟩ : ∃ z, z = ups τ 26 0 0 ((τ 26 0 0) + 1) := ⟨_, rfl⟩
  rw [← hσ1] at hW
  refine lv_aload_n hx hb dX8_list_34 rfl (lv_at hl 0 rfl) ?_
  refine mg_lists_f hC hW hin_X8 hl_93 (by rw [hσ1, ups_eq]) dX8_list_35 ?_
  refine k_iconst hC dX8_list_38 ?_
  refine k_isub hC dX8_list_39 ?_
  have hW : WP Dg mcnt ad (mE cA ad (ups τ 26 0 0 (τ 26 0 0 + 1))) _ := (sw hW (by rw [hσ1]))
  exact k_iret hX (by omega) hW hS dX8_list_40
set_option maxHeartbeats 1000000 in
set_option maxRecDepth 100000 in
theorem n_list_s {l : Launch} {Dg : va_G} {cA : Nat → ClassId} {ad : Nat → Int → Nat} {oc : Nat → Nat} (hI : WI mcnt ad) (σ : St) (h1 : σ 26 0 0 = 8) : GI l yX8_list wsX8_list ({ frames := 1, cells := 0, slots := 0, locals := 22 } : Room) Dg cA mcnt ad oc (mE cA ad σ) [.ref (ad 0 0)] 0 (mE cA ad (ups σ 31 0 0 1)) := by
  intro sz
  refine g_ent (cc := cX8_list) (maxL := 1) (ret := (some .int)) (by decide) rfl hI (Nat.le_of_ble_eq_true rfl) ?_
  intro pgm env s₀ m₀ bel mth cod hX hW hS hsz ls hl
  subst hsz
  have hC := hX.1
  have hx := hC.1
  have hb := hC.2.1
  have hts := hC.2.2.2.1
  have hl : lv_has ls 1 [(0, .ref (ad 0 0))] := hl
  have hin_X8 : ∀ w ∈ wsX80, w ∈ wsX8_list := by decide +kernel
  have hl_93 := hts (.fieldLink RX8 93 "KioskReelModel" "lists" "I") (by decide +kernel)
  refine lv_aload_n hx hb dX8_list_0 rfl (lv_at hl 0 rfl) ?_
  refine lv_aload_n hx hb dX8_list_1 rfl (lv_at hl 0 rfl) ?_
  refine mg_lists_f hC hW hin_X8 hl_93 (v := σ 26 0 0) rfl dX8_list_2 ?_
  refine k_bipush hC dX8_list_5 (by decide) ?_
  refine k_icmp_ne (tgt := 14) hC dX8_list_7 (by decide) (by omega) (fun c1 => absurd c1 (by omega)) (fun c1 => ?_)
  refine k_iconst hC dX8_list_10 ?_
  refine lv_goto (tgt := 15) hx hb dX8_list_11 (by decide) ?_
  refine k_iconst hC dX8_list_15 ?_
  refine k_callI (As := [.int (zi 1), .int (zi 1)]) (rest := []) hX hl.1 (n_thr1 hI σ 1 (by omega)) (cwV 2 hts gX8_list_X8_isThrown rfl rfl rfl (by decide +kernel) ⟨Nat.le_of_ble_eq_true rfl, Nat.le_of_ble_eq_true rfl⟩) (rc_M hC hW) hW hS ⟨Nat.zero_le _, Nat.zero_le _⟩ rfl rfl (Nat.le_of_ble_eq_true rfl) dX8_list_16 (fun H locs hW hS _ _ => ?_)
  obtain ⟨σ1, hσ1⟩ : ∃ z, z = ups σ 31 0 0 1 := ⟨_, rfl⟩
  rw [← hσ1] at hW
  refine k_if_eq (tgt := 24) hC dX8_list_19 (by decide) (by omega) (fun c2 => absurd c2 (by omega)) (fun c2 => ?_)
  refine k_iconst hC dX8_list_22 ?_
  have hW : WP Dg mcnt ad (mE cA ad (ups σ 31 0 0 1)) _ := (sw hW (by first | (rw [hσ1]; done) | (rw [hσ1]; exact ups_ups _ _ _ _ _ _) | (rw [hσ1, ups_ups, ups_ups]; done)))
  exact k_iret hX rfl hW hS dX8_list_23
set_option maxHeartbeats 1000000 in
set_option maxRecDepth 100000 in
theorem n_kiosk {l : Launch} {Dg : va_G} {cA : Nat → ClassId} {ad : Nat → Int → Nat} {oc : Nat → Nat} (hI : WI mcnt ad) {τ : St} (σ : St) (hτ : τ = ups σ 31 0 0 0) (h1 : 0 ≤ τ 27 0 0 ∧ τ 27 0 0 < 6) : GI l yX8_kiosk wsX8_kiosk ({ frames := 1, cells := 0, slots := 0, locals := 22 } : Room) Dg cA mcnt ad oc (mE cA ad σ) [.ref (ad 0 0)] (τ 27 0 0) (mE cA ad (ups τ 27 0 0 (τ 27 0 0 + 1))) := by
  intro sz
  refine g_ent (cc := cX8_kiosk) (maxL := 1) (ret := (some .int)) (by decide) rfl hI (Nat.le_of_ble_eq_true rfl) ?_
  intro pgm env s₀ m₀ bel mth cod hX hW hS hsz ls hl
  subst hsz
  have hC := hX.1
  have hx := hC.1
  have hb := hC.2.1
  have hts := hC.2.2.2.1
  have hl : lv_has ls 1 [(0, .ref (ad 0 0))] := hl
  have hin_X8 : ∀ w ∈ wsX80, w ∈ wsX8_kiosk := by decide +kernel
  have hl_100 := hts (.fieldLink RX8 100 "KioskReelModel" "kiosks" "I") (by decide +kernel)
  have eσ : ∀ (t : Nat) (i j : Int), t ≠ 31 → σ t i j = τ t i j := fun t i j h => by rw [hτ, ups_t _ h]
  have e26 := eσ 26 0 0 (by decide)
  have e27 := eσ 27 0 0 (by decide)
  have e28 := eσ 28 0 0 (by decide)
  refine lv_aload_n hx hb dX8_kiosk_0 rfl (lv_at hl 0 rfl) ?_
  refine lv_aload_n hx hb dX8_kiosk_1 rfl (lv_at hl 0 rfl) ?_
  refine mg_kiosks_f hC hW hin_X8 hl_100 (v := σ 27 0 0) rfl dX8_kiosk_2 ?_
  refine k_bipush hC dX8_kiosk_5 (by decide) ?_
  refine k_icmp_ne (tgt := 14) hC dX8_kiosk_7 (by decide) (by omega) (fun c1 => ?_) (fun c1 => absurd c1 (by omega))
  refine k_iconst hC dX8_kiosk_14 ?_
  refine k_iconst hC dX8_kiosk_15 ?_
  refine k_callI (As := [.int (zi 0), .int (zi 1)]) (rest := []) hX hl.1 (n_thr0 hI σ 1 (by omega)) (cwV 2 hts gX8_kiosk_X8_isThrown rfl rfl rfl (by decide +kernel) ⟨Nat.le_of_ble_eq_true rfl, Nat.le_of_ble_eq_true rfl⟩) (rc_M hC hW) hW hS ⟨Nat.zero_le _, Nat.zero_le _⟩ rfl rfl (Nat.le_of_ble_eq_true rfl) dX8_kiosk_16 (fun H locs hW hS _ _ => ?_)
  have hW : WP Dg mcnt ad (mE cA ad τ) _ := (sw hW hτ.symm)
  refine k_if_eq (tgt := 24) hC dX8_kiosk_19 (by decide) (by omega) (fun c2 => ?_) (fun c2 => absurd c2 (by omega))
  refine lv_aload_n hx hb dX8_kiosk_24 rfl (lv_at hl 0 rfl) ?_
  refine lv_dup hx hb dX8_kiosk_25 rfl ?_
  refine mg_kiosks_f hC hW hin_X8 hl_100 (v := τ 27 0 0) rfl dX8_kiosk_26 ?_
  refine k_iconst hC dX8_kiosk_29 ?_
  refine k_iadd hC dX8_kiosk_30 ?_
  refine mp_kiosks_f hC hW hin_X8 hl_100 hS dX8_kiosk_31 (fun H locs hW hS => ?_)
  obtain ⟨σ1, hσ1⟩ : ∃ z, z = ups τ 27 0 0 ((τ 27 0 0) + 1) := ⟨_, rfl⟩
  rw [← hσ1] at hW
  refine lv_aload_n hx hb dX8_kiosk_34 rfl (lv_at hl 0 rfl) ?_
  refine mg_kiosks_f hC hW hin_X8 hl_100 (by rw [hσ1, ups_eq]) dX8_kiosk_35 ?_
  refine k_iconst hC dX8_kiosk_38 ?_
  refine k_isub hC dX8_kiosk_39 ?_
  have hW : WP Dg mcnt ad (mE cA ad (ups τ 27 0 0 (τ 27 0 0 + 1))) _ := (sw hW (by rw [hσ1]))
  exact k_iret hX (by omega) hW hS dX8_kiosk_40
set_option maxHeartbeats 1000000 in
set_option maxRecDepth 100000 in
theorem n_kiosk_s {l : Launch} {Dg : va_G} {cA : Nat → ClassId} {ad : Nat → Int → Nat} {oc : Nat → Nat} (hI : WI mcnt ad) (σ : St) (h1 : σ 27 0 0 = 6) : GI l yX8_kiosk wsX8_kiosk ({ frames := 1, cells := 0, slots := 0, locals := 22 } : Room) Dg cA mcnt ad oc (mE cA ad σ) [.ref (ad 0 0)] 0 (mE cA ad (ups σ 31 0 0 1)) := by
  intro sz
  refine g_ent (cc := cX8_kiosk) (maxL := 1) (ret := (some .int)) (by decide) rfl hI (Nat.le_of_ble_eq_true rfl) ?_
  intro pgm env s₀ m₀ bel mth cod hX hW hS hsz ls hl
  subst hsz
  have hC := hX.1
  have hx := hC.1
  have hb := hC.2.1
  have hts := hC.2.2.2.1
  have hl : lv_has ls 1 [(0, .ref (ad 0 0))] := hl
  have hin_X8 : ∀ w ∈ wsX80, w ∈ wsX8_kiosk := by decide +kernel
  have hl_100 := hts (.fieldLink RX8 100 "KioskReelModel" "kiosks" "I") (by decide +kernel)
  refine lv_aload_n hx hb dX8_kiosk_0 rfl (lv_at hl 0 rfl) ?_
  refine lv_aload_n hx hb dX8_kiosk_1 rfl (lv_at hl 0 rfl) ?_
  refine mg_kiosks_f hC hW hin_X8 hl_100 (v := σ 27 0 0) rfl dX8_kiosk_2 ?_
  refine k_bipush hC dX8_kiosk_5 (by decide) ?_
  refine k_icmp_ne (tgt := 14) hC dX8_kiosk_7 (by decide) (by omega) (fun c1 => absurd c1 (by omega)) (fun c1 => ?_)
  refine k_iconst hC dX8_kiosk_10 ?_
  refine lv_goto (tgt := 15) hx hb dX8_kiosk_11 (by decide) ?_
  refine k_iconst hC dX8_kiosk_15 ?_
  refine k_callI (As := [.int (zi 1), .int (zi 1)]) (rest := []) hX hl.1 (n_thr1 hI σ 1 (by omega)) (cwV 2 hts gX8_kiosk_X8_isThrown rfl rfl rfl (by decide +kernel) ⟨Nat.le_of_ble_eq_true rfl, Nat.le_of_ble_eq_true rfl⟩) (rc_M hC hW) hW hS ⟨Nat.zero_le _, Nat.zero_le _⟩ rfl rfl (Nat.le_of_ble_eq_true rfl) dX8_kiosk_16 (fun H locs hW hS _ _ => ?_)
  obtain ⟨σ1, hσ1⟩ : ∃ z, z = ups σ 31 0 0 1 := ⟨_, rfl⟩
  rw [← hσ1] at hW
  refine k_if_eq (tgt := 24) hC dX8_kiosk_19 (by decide) (by omega) (fun c2 => absurd c2 (by omega)) (fun c2 => ?_)
  refine k_iconst hC dX8_kiosk_22 ?_
  have hW : WP Dg mcnt ad (mE cA ad (ups σ 31 0 0 1)) _ := (sw hW (by first | (rw [hσ1]; done) | (rw [hσ1]; exact ups_ups _ _ _ _ _ _) | (rw [hσ1, ups_ups, ups_ups]; done)))
  exact k_iret hX rfl hW hS dX8_kiosk_23
set_option maxHeartbeats 1000000 in
set_option maxRecDepth 100000 in
theorem n_visitor {l : Launch} {Dg : va_G} {cA : Nat → ClassId} {ad : Nat → Int → Nat} {oc : Nat → Nat} (hI : WI mcnt ad) {τ : St} (σ : St) (hτ : τ = ups σ 31 0 0 0) (h1 : 0 ≤ τ 28 0 0 ∧ τ 28 0 0 < 10) : GI l yX8_visitor wsX8_visitor ({ frames := 1, cells := 0, slots := 0, locals := 22 } : Room) Dg cA mcnt ad oc (mE cA ad σ) [.ref (ad 0 0)] (τ 28 0 0) (mE cA ad (ups τ 28 0 0 (τ 28 0 0 + 1))) := by
  intro sz
  refine g_ent (cc := cX8_visitor) (maxL := 1) (ret := (some .int)) (by decide) rfl hI (Nat.le_of_ble_eq_true rfl) ?_
  intro pgm env s₀ m₀ bel mth cod hX hW hS hsz ls hl
  subst hsz
  have hC := hX.1
  have hx := hC.1
  have hb := hC.2.1
  have hts := hC.2.2.2.1
  have hl : lv_has ls 1 [(0, .ref (ad 0 0))] := hl
  have hin_X8 : ∀ w ∈ wsX80, w ∈ wsX8_visitor := by decide +kernel
  have hl_173 := hts (.fieldLink RX8 173 "KioskReelModel" "visitors" "I") (by decide +kernel)
  have eσ : ∀ (t : Nat) (i j : Int), t ≠ 31 → σ t i j = τ t i j := fun t i j h => by rw [hτ, ups_t _ h]
  have e26 := eσ 26 0 0 (by decide)
  have e27 := eσ 27 0 0 (by decide)
  have e28 := eσ 28 0 0 (by decide)
  refine lv_aload_n hx hb dX8_visitor_0 rfl (lv_at hl 0 rfl) ?_
  refine lv_aload_n hx hb dX8_visitor_1 rfl (lv_at hl 0 rfl) ?_
  refine mg_visitors_f hC hW hin_X8 hl_173 (v := σ 28 0 0) rfl dX8_visitor_2 ?_
  refine k_bipush hC dX8_visitor_5 (by decide) ?_
  refine k_icmp_ne (tgt := 14) hC dX8_visitor_7 (by decide) (by omega) (fun c1 => ?_) (fun c1 => absurd c1 (by omega))
  refine k_iconst hC dX8_visitor_14 ?_
  refine k_iconst hC dX8_visitor_15 ?_
  refine k_callI (As := [.int (zi 0), .int (zi 1)]) (rest := []) hX hl.1 (n_thr0 hI σ 1 (by omega)) (cwV 2 hts gX8_visitor_X8_isThrown rfl rfl rfl (by decide +kernel) ⟨Nat.le_of_ble_eq_true rfl, Nat.le_of_ble_eq_true rfl⟩) (rc_M hC hW) hW hS ⟨Nat.zero_le _, Nat.zero_le _⟩ rfl rfl (Nat.le_of_ble_eq_true rfl) dX8_visitor_16 (fun H locs hW hS _ _ => ?_)
  have hW : WP Dg mcnt ad (mE cA ad τ) _ := (sw hW hτ.symm)
  refine k_if_eq (tgt := 24) hC dX8_visitor_19 (by decide) (by omega) (fun c2 => ?_) (fun c2 => absurd c2 (by omega))
  refine lv_aload_n hx hb dX8_visitor_24 rfl (lv_at hl 0 rfl) ?_
  refine lv_dup hx hb dX8_visitor_25 rfl ?_
  refine mg_visitors_f hC hW hin_X8 hl_173 (v := τ 28 0 0) rfl dX8_visitor_26 ?_
  refine k_iconst hC dX8_visitor_29 ?_
  refine k_iadd hC dX8_visitor_30 ?_
  refine mp_visitors_f hC hW hin_X8 hl_173 hS dX8_visitor_31 (fun H locs hW hS => ?_)
  obtain ⟨σ1, hσ1⟩ : ∃ z, z = ups τ 28 0 0 ((τ 28 0 0) + 1) := ⟨_, rfl⟩
  rw [← hσ1] at hW
  refine lv_aload_n hx hb dX8_visitor_34 rfl (lv_at hl 0 rfl) ?_
  refine mg_visitors_f hC hW hin_X8 hl_173 (by rw [hσ1, ups_eq]) dX8_visitor_35 ?_
  refine k_iconst hC dX8_visitor_38 ?_
  refine k_isub hC dX8_visitor_39 ?_
  have hW : WP Dg mcnt ad (mE cA ad (ups τ 28 0 0 (τ 28 0 0 + 1))) _ := (sw hW (by rw [hσ1]))
  exact k_iret hX (by omega) hW hS dX8_visitor_40
set_option maxHeartbeats 1000000 in
set_option maxRecDepth 100000 in
theorem n_visitor_s {l : Launch} {Dg : va_G} {cA : Nat → ClassId} {ad : Nat → Int → Nat} {oc : Nat → Nat} (hI : WI mcnt ad) (σ : St) (h1 : σ 28 0 0 = 10) : GI l yX8_visitor wsX8_visitor ({ frames := 1, cells := 0, slots := 0, locals := 22 } : Room) Dg cA mcnt ad oc (mE cA ad σ) [.ref (ad 0 0)] 0 (mE cA ad (ups σ 31 0 0 1)) := by
  intro sz
  refine g_ent (cc := cX8_visitor) (maxL := 1) (ret := (some .int)) (by decide) rfl hI (Nat.le_of_ble_eq_true rfl) ?_
  intro pgm env s₀ m₀ bel mth cod hX hW hS hsz ls hl
  subst hsz
  have hC := hX.1
  have hx := hC.1
  have hb := hC.2.1
  have hts := hC.2.2.2.1
  have hl : lv_has ls 1 [(0, .ref (ad 0 0))] := hl
  have hin_X8 : ∀ w ∈ wsX80, w ∈ wsX8_visitor := by decide +kernel
  have hl_173 := hts (.fieldLink RX8 173 "KioskReelModel" "visitors" "I") (by decide +kernel)
  refine lv_aload_n hx hb dX8_visitor_0 rfl (lv_at hl 0 rfl) ?_
  refine lv_aload_n hx hb dX8_visitor_1 rfl (lv_at hl 0 rfl) ?_
  refine mg_visitors_f hC hW hin_X8 hl_173 (v := σ 28 0 0) rfl dX8_visitor_2 ?_
  refine k_bipush hC dX8_visitor_5 (by decide) ?_
  refine k_icmp_ne (tgt := 14) hC dX8_visitor_7 (by decide) (by omega) (fun c1 => absurd c1 (by omega)) (fun c1 => ?_)
  refine k_iconst hC dX8_visitor_10 ?_
  refine lv_goto (tgt := 15) hx hb dX8_visitor_11 (by decide) ?_
  refine k_iconst hC dX8_visitor_15 ?_
  refine k_callI (As := [.int (zi 1), .int (zi 1)]) (rest := []) hX hl.1 (n_thr1 hI σ 1 (by omega)) (cwV 2 hts gX8_visitor_X8_isThrown rfl rfl rfl (by decide +kernel) ⟨Nat.le_of_ble_eq_true rfl, Nat.le_of_ble_eq_true rfl⟩) (rc_M hC hW) hW hS ⟨Nat.zero_le _, Nat.zero_le _⟩ rfl rfl (Nat.le_of_ble_eq_true rfl) dX8_visitor_16 (fun H locs hW hS _ _ => ?_)
  obtain ⟨σ1, hσ1⟩ : ∃ z, z = ups σ 31 0 0 1 := ⟨_, rfl⟩
  rw [← hσ1] at hW
  refine k_if_eq (tgt := 24) hC dX8_visitor_19 (by decide) (by omega) (fun c2 => absurd c2 (by omega)) (fun c2 => ?_)
  refine k_iconst hC dX8_visitor_22 ?_
  have hW : WP Dg mcnt ad (mE cA ad (ups σ 31 0 0 1)) _ := (sw hW (by first | (rw [hσ1]; done) | (rw [hσ1]; exact ups_ups _ _ _ _ _ _) | (rw [hσ1, ups_ups, ups_ups]; done)))
  exact k_iret hX rfl hW hS dX8_visitor_23
set_option maxHeartbeats 1000000 in
set_option maxRecDepth 100000 in
theorem n_line {l : Launch} {Dg : va_G} {cA : Nat → ClassId} {ad : Nat → Int → Nat} {oc : Nat → Nat} (hI : WI mcnt ad) {N M : Int} {τ : St} (σ : St) (a place k n : Int) (hτ : τ = ups σ 31 0 0 0) (hv : Inv N M τ) (hl0 : 0 ≤ a ∧ a < τ 26 0 0) (hpl : 0 ≤ place ∧ place ≤ τ 3 a 0) (hkc : 0 ≤ k ∧ k < 65536) (hkm : mostN k ≠ -1) (hnn : leastN k ≤ n ∧ n ≤ mostN k) (h20 : τ 3 a 0 < 20) : GI l yX8_line wsX8_line ({ frames := 2, cells := 0, slots := 0, locals := 45 } : Room) Dg cA mcnt ad oc (mE cA ad σ) [.ref (ad 0 0), .int (zi a), .int (zi place), .int (zi k), .int (zi n)] (τ 3 a 0 + 1) (mE cA ad (fIns τ a place k n)) := by
  intro sz
  refine g_ent (cc := cX8_line) (maxL := 6) (ret := (some .int)) (by decide) rfl hI (Nat.le_of_ble_eq_true rfl) ?_
  intro pgm env s₀ m₀ bel mth cod hX hW hS hsz ls hl
  subst hsz
  have hC := hX.1
  have hx := hC.1
  have hb := hC.2.1
  have hts := hC.2.2.2.1
  have hl : lv_has ls 6 [(0, .ref (ad 0 0)), (1, .int (zi a)), (2, .int (zi place)), (3, .int (zi k)), (4, .int (zi n))] := hl
  have hin_X8 : ∀ w ∈ wsX80, w ∈ wsX8_line := by decide +kernel
  have hl_7 := hts (.fieldLink RX8 7 "KioskReelModel" "many" "[I") (by decide +kernel)
  have hl_13 := hts (.fieldLink RX8 13 "KioskReelModel" "kind" "[I") (by decide +kernel)
  have hl_16 := hts (.fieldLink RX8 16 "KioskReelModel" "number" "[I") (by decide +kernel)
  have eσ : ∀ (t : Nat) (i j : Int), t ≠ 31 → σ t i j = τ t i j := fun t i j h => by rw [hτ, ups_t _ h]
  have e26 := eσ 26 0 0 (by decide)
  have e27 := eσ 27 0 0 (by decide)
  have e28 := eσ 28 0 0 (by decide)
  have hA := hv.A
  unfold IvA at hA
  have e3 := eσ 3 a 0 (by decide)
  obtain ⟨r1, r2⟩ := hv.R a (by omega) (by omega)
  have mr := mostN_rng k
  have lr := leastN_rng k
  refine lv_aload_n hx hb dX8_line_0 rfl (lv_at hl 0 rfl) ?_
  refine lv_aload_n hx hb dX8_line_1 rfl (lv_at hl 0 rfl) ?_
  refine lv_iload_n hx hb dX8_line_2 rfl (lv_at hl 1 rfl) ?_
  refine k_callI (As := [.int (zi a)]) (rest := [.ref (ad 0 0)]) hX hl.1 (n_isList hI σ a (by omega) (by omega)) (cwV 1 hts gX8_line_X8_isList rfl rfl rfl (by decide +kernel) ⟨Nat.le_of_ble_eq_true rfl, Nat.le_of_ble_eq_true rfl⟩) (rc_M hC hW) hW hS ⟨Nat.zero_le _, Nat.zero_le _⟩ rfl rfl (Nat.le_of_ble_eq_true rfl) dX8_line_3 (fun H locs hW hS _ _ => ?_)
  refine k_if_eq (tgt := 23) hC dX8_line_6 (by decide) (by omega) (fun c1 => absurd c1 (by omega)) (fun c1 => ?_)
  refine lv_iload_n hx hb dX8_line_9 rfl (lv_at hl 2 rfl) ?_
  refine k_iconst hC dX8_line_10 ?_
  refine lv_aload_n hx hb dX8_line_11 rfl (lv_at hl 0 rfl) ?_
  refine mg_many hC hW hin_X8 hl_7 dX8_line_12 ?_
  refine lv_iload_n hx hb dX8_line_15 rfl (lv_at hl 1 rfl) ?_
  refine ma_many hC hW (by omega) (v := σ 3 a 0) rfl dX8_line_16 ?_
  refine k_callSI (As := [.int (zi place), .int (zi 0), .int (zi (σ 3 a 0))]) (rest := [.ref (ad 0 0)]) hX hl.1 (n_isIn hI σ place 0 (σ 3 a 0) (by omega) (by omega) (by omega)) (cwS 3 hts gX8_line_X8_isIn rfl rfl rfl (by decide +kernel) ⟨Nat.le_of_ble_eq_true rfl, Nat.le_of_ble_eq_true rfl⟩) hW hS ⟨Nat.zero_le _, Nat.zero_le _⟩ rfl rfl (Nat.le_of_ble_eq_true rfl) dX8_line_17 (fun H locs hW hS _ _ => ?_)
  refine k_if_ne (tgt := 27) hC dX8_line_20 (by decide) (by omega) (fun c2 => ?_) (fun c2 => absurd c2 (by omega))
  refine k_iconst hC dX8_line_27 ?_
  refine k_iconst hC dX8_line_28 ?_
  refine k_callI (As := [.int (zi 0), .int (zi 1)]) (rest := []) hX hl.1 (n_thr0 hI σ 1 (by omega)) (cwV 2 hts gX8_line_X8_isThrown rfl rfl rfl (by decide +kernel) ⟨Nat.le_of_ble_eq_true rfl, Nat.le_of_ble_eq_true rfl⟩) (rc_M hC hW) hW hS ⟨Nat.zero_le _, Nat.zero_le _⟩ rfl rfl (Nat.le_of_ble_eq_true rfl) dX8_line_29 (fun H locs hW hS _ _ => ?_)
  have hW : WP Dg mcnt ad (mE cA ad τ) _ := (sw hW hτ.symm)
  refine k_if_ne (tgt := 88) hC dX8_line_32 (by decide) (by omega) (fun c3 => absurd c3 (by omega)) (fun c3 => ?_)
  refine lv_aload_n hx hb dX8_line_35 rfl (lv_at hl 0 rfl) ?_
  refine lv_iload_n hx hb dX8_line_36 rfl (lv_at hl 3 rfl) ?_
  refine k_callSI (As := [.int (zi k)]) (rest := [.ref (ad 0 0)]) hX hl.1 (n_isKind hI τ k hkc) (cwS 1 hts gX8_line_X8_isKind rfl rfl rfl (by decide +kernel) ⟨Nat.le_of_ble_eq_true rfl, Nat.le_of_ble_eq_true rfl⟩) hW hS ⟨Nat.zero_le _, Nat.zero_le _⟩ rfl rfl (Nat.le_of_ble_eq_true rfl) dX8_line_37 (fun H locs hW hS _ _ => ?_)
  refine k_if_eq (tgt := 52) hC dX8_line_40 (by decide) (by omega) (fun c4 => absurd c4 (by omega)) (fun c4 => ?_)
  refine lv_iload_n hx hb dX8_line_43 rfl (lv_at hl 3 rfl) ?_
  refine lv_iload hx hb dX8_line_44 (lv_at hl 4 rfl) ?_
  refine k_callSI (As := [.int (zi k), .int (zi n)]) (rest := [.ref (ad 0 0)]) hX hl.1 (n_isNumber hI τ k n hkc hkm (by omega)) (cwS 2 hts gX8_line_X8_isNumber rfl rfl rfl (by decide +kernel) ⟨Nat.le_of_ble_eq_true rfl, Nat.le_of_ble_eq_true rfl⟩) hW hS ⟨Nat.zero_le _, Nat.zero_le _⟩ rfl rfl (Nat.le_of_ble_eq_true rfl) dX8_line_46 (fun H locs hW hS _ _ => ?_)
  refine k_if_ne (tgt := 56) hC dX8_line_49 (by decide) (by omega) (fun c5 => ?_) (fun c5 => absurd c5 (by omega))
  refine k_iconst hC dX8_line_56 ?_
  refine k_iconst hC dX8_line_57 ?_
  refine k_callI (As := [.int (zi 0), .int (zi 2)]) (rest := []) hX hl.1 (n_thr0 hI τ 2 (by omega)) (cwV 2 hts gX8_line_X8_isThrown rfl rfl rfl (by decide +kernel) ⟨Nat.le_of_ble_eq_true rfl, Nat.le_of_ble_eq_true rfl⟩) (rc_M hC hW) hW hS ⟨Nat.zero_le _, Nat.zero_le _⟩ rfl rfl (Nat.le_of_ble_eq_true rfl) dX8_line_58 (fun H locs hW hS _ _ => ?_)
  have hW : WP Dg mcnt ad (mE cA ad τ) _ := (sw hW (ups_id _ _ _ _ (by rw [hτ, ups_eq])))
  refine k_if_ne (tgt := 88) hC dX8_line_61 (by decide) (by omega) (fun c6 => absurd c6 (by omega)) (fun c6 => ?_)
  refine lv_aload_n hx hb dX8_line_64 rfl (lv_at hl 0 rfl) ?_
  refine lv_aload_n hx hb dX8_line_65 rfl (lv_at hl 0 rfl) ?_
  refine mg_many hC hW hin_X8 hl_7 dX8_line_66 ?_
  refine lv_iload_n hx hb dX8_line_69 rfl (lv_at hl 1 rfl) ?_
  refine ma_many hC hW (by omega) (v := τ 3 a 0) rfl dX8_line_70 ?_
  refine k_bipush hC dX8_line_71 (by decide) ?_
  refine k_icmp_ne (tgt := 80) hC dX8_line_73 (by decide) (by omega) (fun c7 => ?_) (fun c7 => absurd c7 (by omega))
  refine k_iconst hC dX8_line_80 ?_
  refine k_iconst hC dX8_line_81 ?_
  refine k_callI (As := [.int (zi 0), .int (zi 3)]) (rest := []) hX hl.1 (n_thr0 hI τ 3 (by omega)) (cwV 2 hts gX8_line_X8_isThrown rfl rfl rfl (by decide +kernel) ⟨Nat.le_of_ble_eq_true rfl, Nat.le_of_ble_eq_true rfl⟩) (rc_M hC hW) hW hS ⟨Nat.zero_le _, Nat.zero_le _⟩ rfl rfl (Nat.le_of_ble_eq_true rfl) dX8_line_82 (fun H locs hW hS _ _ => ?_)
  have hW : WP Dg mcnt ad (mE cA ad τ) _ := (sw hW (ups_id _ _ _ _ (by rw [hτ, ups_eq])))
  refine k_if_eq (tgt := 90) hC dX8_line_85 (by decide) (by omega) (fun c8 => ?_) (fun c8 => absurd c8 (by omega))
  refine k_bipush hC dX8_line_90 (by decide) ?_
  refine lv_iload_n hx hb dX8_line_92 rfl (lv_at hl 1 rfl) ?_
  refine k_imul hC dX8_line_93 ?_
  refine lv_aload_n hx hb dX8_line_94 rfl (lv_at hl 0 rfl) ?_
  refine mg_many hC hW hin_X8 hl_7 dX8_line_95 ?_
  refine lv_iload_n hx hb dX8_line_98 rfl (lv_at hl 1 rfl) ?_
  refine ma_many hC hW (by omega) (v := τ 3 a 0) rfl dX8_line_99 ?_
  refine k_iadd hC dX8_line_100 ?_
  refine lv_istore (lv' := [(5, .int (zi ((20 * a) + (τ 3 a 0)))), (0, .ref (ad 0 0)), (1, .int (zi a)), (2, .int (zi place)), (3, .int (zi k)), (4, .int (zi n))]) hx hb dX8_line_101 hl (by decide) rfl (fun ls hl => ?_)
  have loop_103 : ∀ (fuel : Nat) (m : Int), m - place < (fuel : Int) → (place ≤ m) → (m ≤ τ 3 a 0) → ∀ (H : Heap) (locs : List Loc), WP Dg mcnt ad (mE cA ad (insP τ a m)) H → va_S (WA mcnt ad s₀.heap.size) s₀.heap H locs → ∀ ls : Array Slot, lv_has ls 6 [(5, .int (zi (20 * a + m))), (0, .ref (ad 0 0)), (1, .int (zi a)), (2, .int (zi place)), (3, .int (zi k)), (4, .int (zi n))] → W pgm l env ({ frames := 2, cells := 0, slots := 0, locals := 45 } : Room) s₀ m₀ ([.ref (ad 0 0), .int (zi a), .int (zi place), .int (zi k), .int (zi n)] : List Value).toArray bel mth cod H locs 0 0 (MQ bel (va_Qi (fun (rr : Int32) (_ : Unit) => rr = zi (τ 3 a 0 + 1)) (gB Dg mcnt ad (mE cA ad (fIns τ a place k n))) (WA mcnt ad s₀.heap.size)) ([.ref (ad 0 0), .int (zi a), .int (zi place), .int (zi k), .int (zi n)] : List Value).toArray s₀ 0 0 (WA mcnt ad s₀.heap.size)) (F0 m₀ 103 ls []) := by
    intro fuel
    induction fuel with
    | zero => intro m hn i1 i2; exact absurd hn (by omega)
    | succ fuel ih_103 =>
      intro m hn i1 i2 H locs hW hS ls hl
      obtain ⟨σ1, hσ1⟩ : ∃ z, z = insP τ a m := ⟨_, rfl⟩
      rw [← hσ1] at hW
      refine lv_iload hx hb dX8_line_103 (lv_at hl 0 rfl) ?_
      refine k_bipush hC dX8_line_105 (by decide) ?_
      refine lv_iload_n hx hb dX8_line_107 rfl (lv_at hl 2 rfl) ?_
      refine k_imul hC dX8_line_108 ?_
      refine lv_iload_n hx hb dX8_line_109 rfl (lv_at hl 3 rfl) ?_
      refine k_iadd hC dX8_line_110 ?_
      refine k_icmp_le (tgt := 152) hC dX8_line_111 (by decide) (by omega) (fun c9 => ?_) (fun c9 => ?_)
      · refine lv_aload_n hx hb dX8_line_152 rfl (lv_at hl 1 rfl) ?_
        refine mg_kind hC hW hin_X8 hl_13 dX8_line_153 ?_
        refine k_bipush hC dX8_line_156 (by decide) ?_
        refine lv_iload_n hx hb dX8_line_158 rfl (lv_at hl 2 rfl) ?_
        refine k_imul hC dX8_line_159 ?_
        refine lv_iload_n hx hb dX8_line_160 rfl (lv_at hl 3 rfl) ?_
        refine k_iadd hC dX8_line_161 ?_
        refine lv_iload_n hx hb dX8_line_162 rfl (lv_at hl 4 rfl) ?_
        refine ms_kind hC hW a place (by omega) (by omega) (by omega) hS dX8_line_163 (fun H locs hW hS => ?_)
        obtain ⟨σ2, hσ2⟩ : ∃ z, z = ups σ1 1 a place k := ⟨_, rfl⟩
        rw [← hσ2] at hW
        refine lv_aload_n hx hb dX8_line_164 rfl (lv_at hl 1 rfl) ?_
        refine mg_number hC hW hin_X8 hl_16 dX8_line_165 ?_
        refine k_bipush hC dX8_line_168 (by decide) ?_
        refine lv_iload_n hx hb dX8_line_170 rfl (lv_at hl 2 rfl) ?_
        refine k_imul hC dX8_line_171 ?_
        refine lv_iload_n hx hb dX8_line_172 rfl (lv_at hl 3 rfl) ?_
        refine k_iadd hC dX8_line_173 ?_
        refine lv_iload hx hb dX8_line_174 (lv_at hl 5 rfl) ?_
        refine ms_number hC hW a place (by omega) (by omega) (by omega) hS dX8_line_176 (fun H locs hW hS => ?_)
        obtain ⟨σ3, hσ3⟩ : ∃ z, z = ups σ2 2 a place n := ⟨_, rfl⟩
        rw [← hσ3] at hW
        refine lv_aload_n hx hb dX8_line_177 rfl (lv_at hl 1 rfl) ?_
        refine mg_many hC hW hin_X8 hl_7 dX8_line_178 ?_
        refine lv_iload_n hx hb dX8_line_181 rfl (lv_at hl 2 rfl) ?_
        refine lv_dup2_11 hx hb dX8_line_182 rfl rfl ?_
        refine ma_many hC hW (by omega) (v := τ 3 a 0) (by rw [hσ3, ups_t _ (by decide), hσ2, ups_t _ (by decide), hσ1, insP_o _ _ _ (by decide) (by decide)]) dX8_line_183 ?_
        refine k_iconst hC dX8_line_184 ?_
        refine k_iadd hC dX8_line_185 ?_
        refine ms_many hC hW (by omega) hS dX8_line_186 (fun H locs hW hS => ?_)
        obtain ⟨σ4, hσ4⟩ : ∃ z, z = ups σ3 3 a 0 ((τ 3 a 0) + 1) := ⟨_, rfl⟩
        rw [← hσ4] at hW
        refine lv_aload_n hx hb dX8_line_187 rfl (lv_at hl 1 rfl) ?_
        refine mg_many hC hW hin_X8 hl_7 dX8_line_188 ?_
        refine lv_iload_n hx hb dX8_line_191 rfl (lv_at hl 2 rfl) ?_
        refine ma_many hC hW (by omega) (v := (τ 3 a 0) + 1) (by rw [hσ4, ups_eq]) dX8_line_192 ?_
        have hW : WP Dg mcnt ad (mE cA ad (fIns τ a place k n)) _ := (sw hW (by rw [hσ4, hσ3, hσ2, hσ1, show m = place by omega]; rfl))
        exact k_iret hX rfl hW hS dX8_line_193
      · refine lv_aload_n hx hb dX8_line_114 rfl (lv_at hl 1 rfl) ?_
        refine mg_kind hC hW hin_X8 hl_13 dX8_line_115 ?_
        refine lv_iload hx hb dX8_line_118 (lv_at hl 0 rfl) ?_
        refine lv_aload_n hx hb dX8_line_120 rfl (lv_at hl 1 rfl) ?_
        refine mg_kind hC hW hin_X8 hl_13 dX8_line_121 ?_
        refine lv_iload hx hb dX8_line_124 (lv_at hl 0 rfl) ?_
        refine k_iconst hC dX8_line_126 ?_
        refine k_isub hC dX8_line_127 ?_
        refine ma_kind hC hW a (m - 1) (by omega) (by omega) (by omega) (v := τ 1 a (m - 1)) (by rw [hσ1, insP_rd _ _ _ _ (by omega)]) dX8_line_128 ?_
        refine ms_kind hC hW a m (by omega) (by omega) (by omega) hS dX8_line_129 (fun H locs hW hS => ?_)
        obtain ⟨σ5, hσ5⟩ : ∃ z, z = ups σ1 1 a m (τ 1 a (m - 1)) := ⟨_, rfl⟩
        rw [← hσ5] at hW
        refine lv_aload_n hx hb dX8_line_130 rfl (lv_at hl 1 rfl) ?_
        refine mg_number hC hW hin_X8 hl_16 dX8_line_131 ?_
        refine lv_iload hx hb dX8_line_134 (lv_at hl 0 rfl) ?_
        refine lv_aload_n hx hb dX8_line_136 rfl (lv_at hl 1 rfl) ?_
        refine mg_number hC hW hin_X8 hl_16 dX8_line_137 ?_
        refine lv_iload hx hb dX8_line_140 (lv_at hl 0 rfl) ?_
        refine k_iconst hC dX8_line_142 ?_
        refine k_isub hC dX8_line_143 ?_
        refine ma_number hC hW a (m - 1) (by omega) (by omega) (by omega) (v := τ 2 a (m - 1)) (by rw [hσ5, ups_t _ (by decide), hσ1, insP_rd _ _ _ _ (by omega)]) dX8_line_144 ?_
        refine ms_number hC hW a m (by omega) (by omega) (by omega) hS dX8_line_145 (fun H locs hW hS => ?_)
        obtain ⟨σ6, hσ6⟩ : ∃ z, z = ups σ5 2 a m (τ 2 a (m - 1)) := ⟨_, rfl⟩
        rw [← hσ6] at hW
        refine k_iinc (a := 20 * a + m) (lv' := [(5, .int (zi ((20 * a + m) + (-1)))), (0, .ref (ad 0 0)), (1, .int (zi a)), (2, .int (zi place)), (3, .int (zi k)), (4, .int (zi n))]) hC dX8_line_146 hl (k := 0) rfl (by decide) rfl (fun ls hl => ?_)
        refine lv_goto (tgt := 103) hx hb dX8_line_149 (by decide) ?_
        have hl := Eq.mp (congrArg (fun z : Int => lv_has ls 6 [(5, .int (zi z)), (0, .ref (ad 0 0)), (1, .int (zi a)), (2, .int (zi place)), (3, .int (zi k)), (4, .int (zi n))]) (show ((20 * a + m) + (-1) : Int) = 20 * a + (m - 1) by omega)) hl
        exact ih_103 (m - 1) (by omega) (by omega) (by omega) _ _ (sw hW (by rw [hσ6, hσ5, hσ1]; exact insP_s τ (by omega))) hS _ (lv_sub hl [0, 1, 2, 3, 4, 5] rfl)
  have hl := Eq.mp (congrArg (fun z : Int => lv_has ls 6 [(5, .int (zi z)), (0, .ref (ad 0 0)), (1, .int (zi a)), (2, .int (zi place)), (3, .int (zi k)), (4, .int (zi n))]) (show ((20 * a) + (τ 3 a 0) : Int) = 20 * a + (τ 3 a 0) by omega)) hl
  exact loop_103 (Int.toNat ((τ 3 a 0) - place) + 1) (τ 3 a 0) (by omega) (by omega) (by omega) _ _ (sw hW (insP_0 τ a).symm) hS _ (lv_sub hl [0, 1, 2, 3, 4, 5] rfl)
set_option maxHeartbeats 1000000 in
set_option maxRecDepth 100000 in
theorem n_line_x {l : Launch} {Dg : va_G} {cA : Nat → ClassId} {ad : Nat → Int → Nat} {oc : Nat → Nat} (hI : WI mcnt ad) {N M : Int} (σ : St) (a place k n : Int) (hv : Inv N M σ) (h1 : ¬ (0 ≤ a ∧ a < σ 26 0 0)) (hxr : -2147483648 ≤ a ∧ a < 2147483648) : GI l yX8_line wsX8_line ({ frames := 2, cells := 0, slots := 0, locals := 45 } : Room) Dg cA mcnt ad oc (mE cA ad σ) [.ref (ad 0 0), .int (zi a), .int (zi place), .int (zi k), .int (zi n)] 0 (mE cA ad (ups σ 31 0 0 1)) := by
  intro sz
  refine g_ent (cc := cX8_line) (maxL := 6) (ret := (some .int)) (by decide) rfl hI (Nat.le_of_ble_eq_true rfl) ?_
  intro pgm env s₀ m₀ bel mth cod hX hW hS hsz ls hl
  subst hsz
  have hC := hX.1
  have hx := hC.1
  have hb := hC.2.1
  have hts := hC.2.2.2.1
  have hl : lv_has ls 6 [(0, .ref (ad 0 0)), (1, .int (zi a)), (2, .int (zi place)), (3, .int (zi k)), (4, .int (zi n))] := hl
  have hA := hv.A
  unfold IvA at hA
  refine lv_aload_n hx hb dX8_line_0 rfl (lv_at hl 0 rfl) ?_
  refine lv_aload_n hx hb dX8_line_1 rfl (lv_at hl 0 rfl) ?_
  refine lv_iload_n hx hb dX8_line_2 rfl (lv_at hl 1 rfl) ?_
  refine k_callI (As := [.int (zi a)]) (rest := [.ref (ad 0 0)]) hX hl.1 (n_isList hI σ a (by omega) (by omega)) (cwV 1 hts gX8_line_X8_isList rfl rfl rfl (by decide +kernel) ⟨Nat.le_of_ble_eq_true rfl, Nat.le_of_ble_eq_true rfl⟩) (rc_M hC hW) hW hS ⟨Nat.zero_le _, Nat.zero_le _⟩ rfl rfl (Nat.le_of_ble_eq_true rfl) dX8_line_3 (fun H locs hW hS _ _ => ?_)
  refine k_if_eq (tgt := 23) hC dX8_line_6 (by decide) (by omega) (fun c1 => ?_) (fun c1 => absurd c1 (by omega))
  refine k_iconst hC dX8_line_23 ?_
  refine lv_goto (tgt := 28) hx hb dX8_line_24 (by decide) ?_
  refine k_iconst hC dX8_line_28 ?_
  refine k_callI (As := [.int (zi 1), .int (zi 1)]) (rest := []) hX hl.1 (n_thr1 hI σ 1 (by omega)) (cwV 2 hts gX8_line_X8_isThrown rfl rfl rfl (by decide +kernel) ⟨Nat.le_of_ble_eq_true rfl, Nat.le_of_ble_eq_true rfl⟩) (rc_M hC hW) hW hS ⟨Nat.zero_le _, Nat.zero_le _⟩ rfl rfl (Nat.le_of_ble_eq_true rfl) dX8_line_29 (fun H locs hW hS _ _ => ?_)
  obtain ⟨σ1, hσ1⟩ : ∃ z, z = ups σ 31 0 0 1 := ⟨_, rfl⟩
  rw [← hσ1] at hW
  refine k_if_ne (tgt := 88) hC dX8_line_32 (by decide) (by omega) (fun c2 => ?_) (fun c2 => absurd c2 (by omega))
  refine k_iconst hC dX8_line_88 ?_
  have hW : WP Dg mcnt ad (mE cA ad (ups σ 31 0 0 1)) _ := (sw hW (by first | (rw [hσ1]; done) | (rw [hσ1]; exact ups_ups _ _ _ _ _ _) | (rw [hσ1, ups_ups, ups_ups]; done)))
  exact k_iret hX rfl hW hS dX8_line_89
set_option maxHeartbeats 1000000 in
set_option maxRecDepth 100000 in
theorem n_line_y {l : Launch} {Dg : va_G} {cA : Nat → ClassId} {ad : Nat → Int → Nat} {oc : Nat → Nat} (hI : WI mcnt ad) {N M : Int} (σ : St) (a place k n : Int) (hv : Inv N M σ) (hl0 : 0 ≤ a ∧ a < σ 26 0 0) (h1 : ¬ (0 ≤ place ∧ place ≤ σ 3 a 0)) (hxr : -2147483648 ≤ place ∧ place < 2147483648) : GI l yX8_line wsX8_line ({ frames := 2, cells := 0, slots := 0, locals := 45 } : Room) Dg cA mcnt ad oc (mE cA ad σ) [.ref (ad 0 0), .int (zi a), .int (zi place), .int (zi k), .int (zi n)] 0 (mE cA ad (ups σ 31 0 0 1)) := by
  intro sz
  refine g_ent (cc := cX8_line) (maxL := 6) (ret := (some .int)) (by decide) rfl hI (Nat.le_of_ble_eq_true rfl) ?_
  intro pgm env s₀ m₀ bel mth cod hX hW hS hsz ls hl
  subst hsz
  have hC := hX.1
  have hx := hC.1
  have hb := hC.2.1
  have hts := hC.2.2.2.1
  have hl : lv_has ls 6 [(0, .ref (ad 0 0)), (1, .int (zi a)), (2, .int (zi place)), (3, .int (zi k)), (4, .int (zi n))] := hl
  have hin_X8 : ∀ w ∈ wsX80, w ∈ wsX8_line := by decide +kernel
  have hl_7 := hts (.fieldLink RX8 7 "KioskReelModel" "many" "[I") (by decide +kernel)
  have hA := hv.A
  unfold IvA at hA
  obtain ⟨r1, r2⟩ := hv.R a (by omega) (by omega)
  refine lv_aload_n hx hb dX8_line_0 rfl (lv_at hl 0 rfl) ?_
  refine lv_aload_n hx hb dX8_line_1 rfl (lv_at hl 0 rfl) ?_
  refine lv_iload_n hx hb dX8_line_2 rfl (lv_at hl 1 rfl) ?_
  refine k_callI (As := [.int (zi a)]) (rest := [.ref (ad 0 0)]) hX hl.1 (n_isList hI σ a (by omega) (by omega)) (cwV 1 hts gX8_line_X8_isList rfl rfl rfl (by decide +kernel) ⟨Nat.le_of_ble_eq_true rfl, Nat.le_of_ble_eq_true rfl⟩) (rc_M hC hW) hW hS ⟨Nat.zero_le _, Nat.zero_le _⟩ rfl rfl (Nat.le_of_ble_eq_true rfl) dX8_line_3 (fun H locs hW hS _ _ => ?_)
  refine k_if_eq (tgt := 23) hC dX8_line_6 (by decide) (by omega) (fun c1 => absurd c1 (by omega)) (fun c1 => ?_)
  refine lv_iload_n hx hb dX8_line_9 rfl (lv_at hl 2 rfl) ?_
  refine k_iconst hC dX8_line_10 ?_
  refine lv_aload_n hx hb dX8_line_11 rfl (lv_at hl 0 rfl) ?_
  refine mg_many hC hW hin_X8 hl_7 dX8_line_12 ?_
  refine lv_iload_n hx hb dX8_line_15 rfl (lv_at hl 1 rfl) ?_
  refine ma_many hC hW (by omega) (v := σ 3 a 0) rfl dX8_line_16 ?_
  refine k_callSI (As := [.int (zi place), .int (zi 0), .int (zi (σ 3 a 0))]) (rest := [.ref (ad 0 0)]) hX hl.1 (n_isIn hI σ place 0 (σ 3 a 0) (by omega) (by omega) (by omega)) (cwS 3 hts gX8_line_X8_isIn rfl rfl rfl (by decide +kernel) ⟨Nat.le_of_ble_eq_true rfl, Nat.le_of_ble_eq_true rfl⟩) hW hS ⟨Nat.zero_le _, Nat.zero_le _⟩ rfl rfl (Nat.le_of_ble_eq_true rfl) dX8_line_17 (fun H locs hW hS _ _ => ?_)
  refine k_if_ne (tgt := 27) hC dX8_line_20 (by decide) (by omega) (fun c2 => absurd c2 (by omega)) (fun c2 => ?_)
  refine k_iconst hC dX8_line_23 ?_
  refine lv_goto (tgt := 28) hx hb dX8_line_24 (by decide) ?_
  refine k_iconst hC dX8_line_28 ?_
  refine k_callI (As := [.int (zi 1), .int (zi 1)]) (rest := []) hX hl.1 (n_thr1 hI σ 1 (by omega)) (cwV 2 hts gX8_line_X8_isThrown rfl rfl rfl (by decide +kernel) ⟨Nat.le_of_ble_eq_true rfl, Nat.le_of_ble_eq_true rfl⟩) (rc_M hC hW) hW hS ⟨Nat.zero_le _, Nat.zero_le _⟩ rfl rfl (Nat.le_of_ble_eq_true rfl) dX8_line_29 (fun H locs hW hS _ _ => ?_)
  obtain ⟨σ1, hσ1⟩ : ∃ z, z = ups σ 31 0 0 1 := ⟨_, rfl⟩
  rw [← hσ1] at hW
  refine k_if_ne (tgt := 88) hC dX8_line_32 (by decide) (by omega) (fun c3 => ?_) (fun c3 => absurd c3 (by omega))
  refine k_iconst hC dX8_line_88 ?_
  have hW : WP Dg mcnt ad (mE cA ad (ups σ 31 0 0 1)) _ := (sw hW (by first | (rw [hσ1]; done) | (rw [hσ1]; exact ups_ups _ _ _ _ _ _) | (rw [hσ1, ups_ups, ups_ups]; done)))
  exact k_iret hX rfl hW hS dX8_line_89
set_option maxHeartbeats 1000000 in
set_option maxRecDepth 100000 in
theorem n_line_k {l : Launch} {Dg : va_G} {cA : Nat → ClassId} {ad : Nat → Int → Nat} {oc : Nat → Nat} (hI : WI mcnt ad) {N M : Int} (σ : St) (a place k n : Int) (hv : Inv N M σ) (hl0 : 0 ≤ a ∧ a < σ 26 0 0) (hpl : 0 ≤ place ∧ place ≤ σ 3 a 0) (hkc : 0 ≤ k ∧ k < 65536) (hkm : mostN k = -1) : GI l yX8_line wsX8_line ({ frames := 2, cells := 0, slots := 0, locals := 45 } : Room) Dg cA mcnt ad oc (mE cA ad σ) [.ref (ad 0 0), .int (zi a), .int (zi place), .int (zi k), .int (zi n)] 0 (mE cA ad (ups σ 31 0 0 2)) := by
  intro sz
  refine g_ent (cc := cX8_line) (maxL := 6) (ret := (some .int)) (by decide) rfl hI (Nat.le_of_ble_eq_true rfl) ?_
  intro pgm env s₀ m₀ bel mth cod hX hW hS hsz ls hl
  subst hsz
  have hC := hX.1
  have hx := hC.1
  have hb := hC.2.1
  have hts := hC.2.2.2.1
  have hl : lv_has ls 6 [(0, .ref (ad 0 0)), (1, .int (zi a)), (2, .int (zi place)), (3, .int (zi k)), (4, .int (zi n))] := hl
  have hin_X8 : ∀ w ∈ wsX80, w ∈ wsX8_line := by decide +kernel
  have hl_7 := hts (.fieldLink RX8 7 "KioskReelModel" "many" "[I") (by decide +kernel)
  have hA := hv.A
  unfold IvA at hA
  obtain ⟨r1, r2⟩ := hv.R a (by omega) (by omega)
  refine lv_aload_n hx hb dX8_line_0 rfl (lv_at hl 0 rfl) ?_
  refine lv_aload_n hx hb dX8_line_1 rfl (lv_at hl 0 rfl) ?_
  refine lv_iload_n hx hb dX8_line_2 rfl (lv_at hl 1 rfl) ?_
  refine k_callI (As := [.int (zi a)]) (rest := [.ref (ad 0 0)]) hX hl.1 (n_isList hI σ a (by omega) (by omega)) (cwV 1 hts gX8_line_X8_isList rfl rfl rfl (by decide +kernel) ⟨Nat.le_of_ble_eq_true rfl, Nat.le_of_ble_eq_true rfl⟩) (rc_M hC hW) hW hS ⟨Nat.zero_le _, Nat.zero_le _⟩ rfl rfl (Nat.le_of_ble_eq_true rfl) dX8_line_3 (fun H locs hW hS _ _ => ?_)
  refine k_if_eq (tgt := 23) hC dX8_line_6 (by decide) (by omega) (fun c1 => absurd c1 (by omega)) (fun c1 => ?_)
  refine lv_iload_n hx hb dX8_line_9 rfl (lv_at hl 2 rfl) ?_
  refine k_iconst hC dX8_line_10 ?_
  refine lv_aload_n hx hb dX8_line_11 rfl (lv_at hl 0 rfl) ?_
  refine mg_many hC hW hin_X8 hl_7 dX8_line_12 ?_
  refine lv_iload_n hx hb dX8_line_15 rfl (lv_at hl 1 rfl) ?_
  refine ma_many hC hW (by omega) (v := σ 3 a 0) rfl dX8_line_16 ?_
  refine k_callSI (As := [.int (zi place), .int (zi 0), .int (zi (σ 3 a 0))]) (rest := [.ref (ad 0 0)]) hX hl.1 (n_isIn hI σ place 0 (σ 3 a 0) (by omega) (by omega) (by omega)) (cwS 3 hts gX8_line_X8_isIn rfl rfl rfl (by decide +kernel) ⟨Nat.le_of_ble_eq_true rfl, Nat.le_of_ble_eq_true rfl⟩) hW hS ⟨Nat.zero_le _, Nat.zero_le _⟩ rfl rfl (Nat.le_of_ble_eq_true rfl) dX8_line_17 (fun H locs hW hS _ _ => ?_)
  refine k_if_ne (tgt := 27) hC dX8_line_20 (by decide) (by omega) (fun c2 => ?_) (fun c2 => absurd c2 (by omega))
  refine k_iconst hC dX8_line_27 ?_
  refine k_iconst hC dX8_line_28 ?_
  refine k_callI (As := [.int (zi 0), .int (zi 1)]) (rest := []) hX hl.1 (n_thr0 hI σ 1 (by omega)) (cwV 2 hts gX8_line_X8_isThrown rfl rfl rfl (by decide +kernel) ⟨Nat.le_of_ble_eq_true rfl, Nat.le_of_ble_eq_true rfl⟩) (rc_M hC hW) hW hS ⟨Nat.zero_le _, Nat.zero_le _⟩ rfl rfl (Nat.le_of_ble_eq_true rfl) dX8_line_29 (fun H locs hW hS _ _ => ?_)
  obtain ⟨σ1, hσ1⟩ : ∃ z, z = ups σ 31 0 0 0 := ⟨_, rfl⟩
  rw [← hσ1] at hW
  refine k_if_ne (tgt := 88) hC dX8_line_32 (by decide) (by omega) (fun c3 => absurd c3 (by omega)) (fun c3 => ?_)
  refine lv_aload_n hx hb dX8_line_35 rfl (lv_at hl 0 rfl) ?_
  refine lv_iload_n hx hb dX8_line_36 rfl (lv_at hl 3 rfl) ?_
  refine k_callSI (As := [.int (zi k)]) (rest := [.ref (ad 0 0)]) hX hl.1 (n_isKind hI σ1 k hkc) (cwS 1 hts gX8_line_X8_isKind rfl rfl rfl (by decide +kernel) ⟨Nat.le_of_ble_eq_true rfl, Nat.le_of_ble_eq_true rfl⟩) hW hS ⟨Nat.zero_le _, Nat.zero_le _⟩ rfl rfl (Nat.le_of_ble_eq_true rfl) dX8_line_37 (fun H locs hW hS _ _ => ?_)
  refine k_if_eq (tgt := 52) hC dX8_line_40 (by decide) (by omega) (fun c4 => ?_) (fun c4 => absurd c4 (by omega))
  refine k_iconst hC dX8_line_52 ?_
  refine lv_goto (tgt := 57) hx hb dX8_line_53 (by decide) ?_
  refine k_iconst hC dX8_line_57 ?_
  refine k_callI (As := [.int (zi 1), .int (zi 2)]) (rest := []) hX hl.1 (n_thr1 hI σ1 2 (by omega)) (cwV 2 hts gX8_line_X8_isThrown rfl rfl rfl (by decide +kernel) ⟨Nat.le_of_ble_eq_true rfl, Nat.le_of_ble_eq_true rfl⟩) (rc_M hC hW) hW hS ⟨Nat.zero_le _, Nat.zero_le _⟩ rfl rfl (Nat.le_of_ble_eq_true rfl) dX8_line_58 (fun H locs hW hS _ _ => ?_)
  obtain ⟨σ2, hσ2⟩ : ∃ z, z = ups σ1 31 0 0 2 := ⟨_, rfl⟩
  rw [← hσ2] at hW
  refine k_if_ne (tgt := 88) hC dX8_line_61 (by decide) (by omega) (fun c5 => ?_) (fun c5 => absurd c5 (by omega))
  refine k_iconst hC dX8_line_88 ?_
  have hW : WP Dg mcnt ad (mE cA ad (ups σ 31 0 0 2)) _ := (sw hW (by first | (rw [hσ2, hσ1]; done) | (rw [hσ2, hσ1]; exact ups_ups _ _ _ _ _ _) | (rw [hσ2, hσ1, ups_ups, ups_ups]; done)))
  exact k_iret hX rfl hW hS dX8_line_89
set_option maxHeartbeats 1000000 in
set_option maxRecDepth 100000 in
theorem n_line_n {l : Launch} {Dg : va_G} {cA : Nat → ClassId} {ad : Nat → Int → Nat} {oc : Nat → Nat} (hI : WI mcnt ad) {N M : Int} (σ : St) (a place k n : Int) (hv : Inv N M σ) (hl0 : 0 ≤ a ∧ a < σ 26 0 0) (hpl : 0 ≤ place ∧ place ≤ σ 3 a 0) (hkc : 0 ≤ k ∧ k < 65536) (hkm : mostN k ≠ -1) (hnn : ¬ (leastN k ≤ n ∧ n ≤ mostN k)) (hxr : -2147483648 ≤ n ∧ n < 2147483648) : GI l yX8_line wsX8_line ({ frames := 2, cells := 0, slots := 0, locals := 45 } : Room) Dg cA mcnt ad oc (mE cA ad σ) [.ref (ad 0 0), .int (zi a), .int (zi place), .int (zi k), .int (zi n)] 0 (mE cA ad (ups σ 31 0 0 2)) := by
  intro sz
  refine g_ent (cc := cX8_line) (maxL := 6) (ret := (some .int)) (by decide) rfl hI (Nat.le_of_ble_eq_true rfl) ?_
  intro pgm env s₀ m₀ bel mth cod hX hW hS hsz ls hl
  subst hsz
  have hC := hX.1
  have hx := hC.1
  have hb := hC.2.1
  have hts := hC.2.2.2.1
  have hl : lv_has ls 6 [(0, .ref (ad 0 0)), (1, .int (zi a)), (2, .int (zi place)), (3, .int (zi k)), (4, .int (zi n))] := hl
  have hin_X8 : ∀ w ∈ wsX80, w ∈ wsX8_line := by decide +kernel
  have hl_7 := hts (.fieldLink RX8 7 "KioskReelModel" "many" "[I") (by decide +kernel)
  have hA := hv.A
  unfold IvA at hA
  obtain ⟨r1, r2⟩ := hv.R a (by omega) (by omega)
  have mr := mostN_rng k
  have lr := leastN_rng k
  refine lv_aload_n hx hb dX8_line_0 rfl (lv_at hl 0 rfl) ?_
  refine lv_aload_n hx hb dX8_line_1 rfl (lv_at hl 0 rfl) ?_
  refine lv_iload_n hx hb dX8_line_2 rfl (lv_at hl 1 rfl) ?_
  refine k_callI (As := [.int (zi a)]) (rest := [.ref (ad 0 0)]) hX hl.1 (n_isList hI σ a (by omega) (by omega)) (cwV 1 hts gX8_line_X8_isList rfl rfl rfl (by decide +kernel) ⟨Nat.le_of_ble_eq_true rfl, Nat.le_of_ble_eq_true rfl⟩) (rc_M hC hW) hW hS ⟨Nat.zero_le _, Nat.zero_le _⟩ rfl rfl (Nat.le_of_ble_eq_true rfl) dX8_line_3 (fun H locs hW hS _ _ => ?_)
  refine k_if_eq (tgt := 23) hC dX8_line_6 (by decide) (by omega) (fun c1 => absurd c1 (by omega)) (fun c1 => ?_)
  refine lv_iload_n hx hb dX8_line_9 rfl (lv_at hl 2 rfl) ?_
  refine k_iconst hC dX8_line_10 ?_
  refine lv_aload_n hx hb dX8_line_11 rfl (lv_at hl 0 rfl) ?_
  refine mg_many hC hW hin_X8 hl_7 dX8_line_12 ?_
  refine lv_iload_n hx hb dX8_line_15 rfl (lv_at hl 1 rfl) ?_
  refine ma_many hC hW (by omega) (v := σ 3 a 0) rfl dX8_line_16 ?_
  refine k_callSI (As := [.int (zi place), .int (zi 0), .int (zi (σ 3 a 0))]) (rest := [.ref (ad 0 0)]) hX hl.1 (n_isIn hI σ place 0 (σ 3 a 0) (by omega) (by omega) (by omega)) (cwS 3 hts gX8_line_X8_isIn rfl rfl rfl (by decide +kernel) ⟨Nat.le_of_ble_eq_true rfl, Nat.le_of_ble_eq_true rfl⟩) hW hS ⟨Nat.zero_le _, Nat.zero_le _⟩ rfl rfl (Nat.le_of_ble_eq_true rfl) dX8_line_17 (fun H locs hW hS _ _ => ?_)
  refine k_if_ne (tgt := 27) hC dX8_line_20 (by decide) (by omega) (fun c2 => ?_) (fun c2 => absurd c2 (by omega))
  refine k_iconst hC dX8_line_27 ?_
  refine k_iconst hC dX8_line_28 ?_
  refine k_callI (As := [.int (zi 0), .int (zi 1)]) (rest := []) hX hl.1 (n_thr0 hI σ 1 (by omega)) (cwV 2 hts gX8_line_X8_isThrown rfl rfl rfl (by decide +kernel) ⟨Nat.le_of_ble_eq_true rfl, Nat.le_of_ble_eq_true rfl⟩) (rc_M hC hW) hW hS ⟨Nat.zero_le _, Nat.zero_le _⟩ rfl rfl (Nat.le_of_ble_eq_true rfl) dX8_line_29 (fun H locs hW hS _ _ => ?_)
  obtain ⟨σ1, hσ1⟩ : ∃ z, z = ups σ 31 0 0 0 := ⟨_, rfl⟩
  rw [← hσ1] at hW
  refine k_if_ne (tgt := 88) hC dX8_line_32 (by decide) (by omega) (fun c3 => absurd c3 (by omega)) (fun c3 => ?_)
  refine lv_aload_n hx hb dX8_line_35 rfl (lv_at hl 0 rfl) ?_
  refine lv_iload_n hx hb dX8_line_36 rfl (lv_at hl 3 rfl) ?_
  refine k_callSI (As := [.int (zi k)]) (rest := [.ref (ad 0 0)]) hX hl.1 (n_isKind hI σ1 k hkc) (cwS 1 hts gX8_line_X8_isKind rfl rfl rfl (by decide +kernel) ⟨Nat.le_of_ble_eq_true rfl, Nat.le_of_ble_eq_true rfl⟩) hW hS ⟨Nat.zero_le _, Nat.zero_le _⟩ rfl rfl (Nat.le_of_ble_eq_true rfl) dX8_line_37 (fun H locs hW hS _ _ => ?_)
  refine k_if_eq (tgt := 52) hC dX8_line_40 (by decide) (by omega) (fun c4 => absurd c4 (by omega)) (fun c4 => ?_)
  refine lv_iload_n hx hb dX8_line_43 rfl (lv_at hl 3 rfl) ?_
  refine lv_iload hx hb dX8_line_44 (lv_at hl 4 rfl) ?_
  refine k_callSI (As := [.int (zi k), .int (zi n)]) (rest := [.ref (ad 0 0)]) hX hl.1 (n_isNumber hI σ1 k n hkc hkm (by omega)) (cwS 2 hts gX8_line_X8_isNumber rfl rfl rfl (by decide +kernel) ⟨Nat.le_of_ble_eq_true rfl, Nat.le_of_ble_eq_true rfl⟩) hW hS ⟨Nat.zero_le _, Nat.zero_le _⟩ rfl rfl (Nat.le_of_ble_eq_true rfl) dX8_line_46 (fun H locs hW hS _ _ => ?_)
  refine k_if_ne (tgt := 56) hC dX8_line_49 (by decide) (by omega) (fun c5 => absurd c5 (by omega)) (fun c5 => ?_)
  refine k_iconst hC dX8_line_52 ?_
  refine lv_goto (tgt := 57) hx hb dX8_line_53 (by decide) ?_
  refine k_iconst hC dX8_line_57 ?_
  refine k_callI (As := [.int (zi 1), .int (zi 2)]) (rest := []) hX hl.1 (n_thr1 hI σ1 2 (by omega)) (cwV 2 hts gX8_line_X8_isThrown rfl rfl rfl (by decide +kernel) ⟨Nat.le_of_ble_eq_true rfl, Nat.le_of_ble_eq_true rfl⟩) (rc_M hC hW) hW hS ⟨Nat.zero_le _, Nat.zero_le _⟩ rfl rfl (Nat.le_of_ble_eq_true rfl) dX8_line_58 (fun H locs hW hS _ _ => ?_)
  obtain ⟨σ2, hσ2⟩ : ∃ z, z = ups σ1 31 0 0 2 := ⟨_, rfl⟩
  rw [← hσ2] at hW
  refine k_if_ne (tgt := 88) hC dX8_line_61 (by decide) (by omega) (fun c6 => ?_) (fun c6 => absurd c6 (by omega))
  refine k_iconst hC dX8_line_88 ?_
  have hW : WP Dg mcnt ad (mE cA ad (ups σ 31 0 0 2)) _ := (sw hW (by first | (rw [hσ2, hσ1]; done) | (rw [hσ2, hσ1]; exact ups_ups _ _ _ _ _ _) | (rw [hσ2, hσ1, ups_ups, ups_ups]; done)))
  exact k_iret hX rfl hW hS dX8_line_89
set_option maxHeartbeats 1000000 in
set_option maxRecDepth 100000 in
theorem n_line_s {l : Launch} {Dg : va_G} {cA : Nat → ClassId} {ad : Nat → Int → Nat} {oc : Nat → Nat} (hI : WI mcnt ad) {N M : Int} (σ : St) (a place k n : Int) (hv : Inv N M σ) (hl0 : 0 ≤ a ∧ a < σ 26 0 0) (hpl : 0 ≤ place ∧ place ≤ σ 3 a 0) (hkc : 0 ≤ k ∧ k < 65536) (hkm : mostN k ≠ -1) (hnn : leastN k ≤ n ∧ n ≤ mostN k) (h20 : σ 3 a 0 = 20) : GI l yX8_line wsX8_line ({ frames := 2, cells := 0, slots := 0, locals := 45 } : Room) Dg cA mcnt ad oc (mE cA ad σ) [.ref (ad 0 0), .int (zi a), .int (zi place), .int (zi k), .int (zi n)] 0 (mE cA ad (ups σ 31 0 0 3)) := by
  intro sz
  refine g_ent (cc := cX8_line) (maxL := 6) (ret := (some .int)) (by decide) rfl hI (Nat.le_of_ble_eq_true rfl) ?_
  intro pgm env s₀ m₀ bel mth cod hX hW hS hsz ls hl
  subst hsz
  have hC := hX.1
  have hx := hC.1
  have hb := hC.2.1
  have hts := hC.2.2.2.1
  have hl : lv_has ls 6 [(0, .ref (ad 0 0)), (1, .int (zi a)), (2, .int (zi place)), (3, .int (zi k)), (4, .int (zi n))] := hl
  have hin_X8 : ∀ w ∈ wsX80, w ∈ wsX8_line := by decide +kernel
  have hl_7 := hts (.fieldLink RX8 7 "KioskReelModel" "many" "[I") (by decide +kernel)
  have hA := hv.A
  unfold IvA at hA
  obtain ⟨r1, r2⟩ := hv.R a (by omega) (by omega)
  have mr := mostN_rng k
  have lr := leastN_rng k
  refine lv_aload_n hx hb dX8_line_0 rfl (lv_at hl 0 rfl) ?_
  refine lv_aload_n hx hb dX8_line_1 rfl (lv_at hl 0 rfl) ?_
  refine lv_iload_n hx hb dX8_line_2 rfl (lv_at hl 1 rfl) ?_
  refine k_callI (As := [.int (zi a)]) (rest := [.ref (ad 0 0)]) hX hl.1 (n_isList hI σ a (by omega) (by omega)) (cwV 1 hts gX8_line_X8_isList rfl rfl rfl (by decide +kernel) ⟨Nat.le_of_ble_eq_true rfl, Nat.le_of_ble_eq_true rfl⟩) (rc_M hC hW) hW hS ⟨Nat.zero_le _, Nat.zero_le _⟩ rfl rfl (Nat.le_of_ble_eq_true rfl) dX8_line_3 (fun H locs hW hS _ _ => ?_)
  refine k_if_eq (tgt := 23) hC dX8_line_6 (by decide) (by omega) (fun c1 => absurd c1 (by omega)) (fun c1 => ?_)
  refine lv_iload_n hx hb dX8_line_9 rfl (lv_at hl 2 rfl) ?_
  refine k_iconst hC dX8_line_10 ?_
  refine lv_aload_n hx hb dX8_line_11 rfl (lv_at hl 0 rfl) ?_
  refine mg_many hC hW hin_X8 hl_7 dX8_line_12 ?_
  refine lv_iload_n hx hb dX8_line_15 rfl (lv_at hl 1 rfl) ?_
  refine ma_many hC hW (by omega) (v := σ 3 a 0) rfl dX8_line_16 ?_
  refine k_callSI (As := [.int (zi place), .int (zi 0), .int (zi (σ 3 a 0))]) (rest := [.ref (ad 0 0)]) hX hl.1 (n_isIn hI σ place 0 (σ 3 a 0) (by omega) (by omega) (by omega)) (cwS 3 hts gX8_line_X8_isIn rfl rfl rfl (by decide +kernel) ⟨Nat.le_of_ble_eq_true rfl, Nat.le_of_ble_eq_true rfl⟩) hW hS ⟨Nat.zero_le _, Nat.zero_le _⟩ rfl rfl (Nat.le_of_ble_eq_true rfl) dX8_line_17 (fun H locs hW hS _ _ => ?_)
  refine k_if_ne (tgt := 27) hC dX8_line_20 (by decide) (by omega) (fun c2 => ?_) (fun c2 => absurd c2 (by omega))
  refine k_iconst hC dX8_line_27 ?_
  refine k_iconst hC dX8_line_28 ?_
  refine k_callI (As := [.int (zi 0), .int (zi 1)]) (rest := []) hX hl.1 (n_thr0 hI σ 1 (by omega)) (cwV 2 hts gX8_line_X8_isThrown rfl rfl rfl (by decide +kernel) ⟨Nat.le_of_ble_eq_true rfl, Nat.le_of_ble_eq_true rfl⟩) (rc_M hC hW) hW hS ⟨Nat.zero_le _, Nat.zero_le _⟩ rfl rfl (Nat.le_of_ble_eq_true rfl) dX8_line_29 (fun H locs hW hS _ _ => ?_)
  obtain ⟨σ1, hσ1⟩ : ∃ z, z = ups σ 31 0 0 0 := ⟨_, rfl⟩
  rw [← hσ1] at hW
  refine k_if_ne (tgt := 88) hC dX8_line_32 (by decide) (by omega) (fun c3 => absurd c3 (by omega)) (fun c3 => ?_)
  refine lv_aload_n hx hb dX8_line_35 rfl (lv_at hl 0 rfl) ?_
  refine lv_iload_n hx hb dX8_line_36 rfl (lv_at hl 3 rfl) ?_
  refine k_callSI (As := [.int (zi k)]) (rest := [.ref (ad 0 0)]) hX hl.1 (n_isKind hI σ1 k hkc) (cwS 1 hts gX8_line_X8_isKind rfl rfl rfl (by decide +kernel) ⟨Nat.le_of_ble_eq_true rfl, Nat.le_of_ble_eq_true rfl⟩) hW hS ⟨Nat.zero_le _, Nat.zero_le _⟩ rfl rfl (Nat.le_of_ble_eq_true rfl) dX8_line_37 (fun H locs hW hS _ _ => ?_)
  refine k_if_eq (tgt := 52) hC dX8_line_40 (by decide) (by omega) (fun c4 => absurd c4 (by omega)) (fun c4 => ?_)
  refine lv_iload_n hx hb dX8_line_43 rfl (lv_at hl 3 rfl) ?_
  refine lv_iload hx hb dX8_line_44 (lv_at hl 4 rfl) ?_
  refine k_callSI (As := [.int (zi k), .int (zi n)]) (rest := [.ref (ad 0 0)]) hX hl.1 (n_isNumber hI σ1 k n hkc hkm (by omega)) (cwS 2 hts gX8_line_X8_isNumber rfl rfl rfl (by decide +kernel) ⟨Nat.le_of_ble_eq_true rfl, Nat.le_of_ble_eq_true rfl⟩) hW hS ⟨Nat.zero_le _, Nat.zero_le _⟩ rfl rfl (Nat.le_of_ble_eq_true rfl) dX8_line_46 (fun H locs hW hS _ _ => ?_)
  refine k_if_ne (tgt := 56) hC dX8_line_49 (by decide) (by omega) (fun c5 => ?_) (fun c5 => absurd c5 (by omega))
  refine k_iconst hC dX8_line_56 ?_
  refine k_iconst hC dX8_line_57 ?_
  refine k_callI (As := [.int (zi 0), .int (zi 2)]) (rest := []) hX hl.1 (n_thr0 hI σ1 2 (by omega)) (cwV 2 hts gX8_line_X8_isThrown rfl rfl rfl (by decide +kernel) ⟨Nat.le_of_ble_eq_true rfl, Nat.le_of_ble_eq_true rfl⟩) (rc_M hC hW) hW hS ⟨Nat.zero_le _, Nat.zero_le _⟩ rfl rfl (Nat.le_of_ble_eq_true rfl) dX8_line_58 (fun H locs hW hS _ _ => ?_)
  obtain ⟨σ2, hσ2⟩ : ∃ z, z = ups σ1 31 0 0 0 := ⟨_, rfl⟩
  rw [← hσ2] at hW
  refine k_if_ne (tgt := 88) hC dX8_line_61 (by decide) (by omega) (fun c6 => absurd c6 (by omega)) (fun c6 => ?_)
  refine lv_aload_n hx hb dX8_line_64 rfl (lv_at hl 0 rfl) ?_
  refine lv_aload_n hx hb dX8_line_65 rfl (lv_at hl 0 rfl) ?_
  refine mg_many hC hW hin_X8 hl_7 dX8_line_66 ?_
  refine lv_iload_n hx hb dX8_line_69 rfl (lv_at hl 1 rfl) ?_
  refine ma_many hC hW (by omega) (v := σ 3 a 0) (by rw [hσ2, ups_t _ (by decide), hσ1, ups_t _ (by decide)]) dX8_line_70 ?_
  refine k_bipush hC dX8_line_71 (by decide) ?_
  refine k_icmp_ne (tgt := 80) hC dX8_line_73 (by decide) (by omega) (fun c7 => absurd c7 (by omega)) (fun c7 => ?_)
  refine k_iconst hC dX8_line_76 ?_
  refine lv_goto (tgt := 81) hx hb dX8_line_77 (by decide) ?_
  refine k_iconst hC dX8_line_81 ?_
  refine k_callI (As := [.int (zi 1), .int (zi 3)]) (rest := []) hX hl.1 (n_thr1 hI σ2 3 (by omega)) (cwV 2 hts gX8_line_X8_isThrown rfl rfl rfl (by decide +kernel) ⟨Nat.le_of_ble_eq_true rfl, Nat.le_of_ble_eq_true rfl⟩) (rc_M hC hW) hW hS ⟨Nat.zero_le _, Nat.zero_le _⟩ rfl rfl (Nat.le_of_ble_eq_true rfl) dX8_line_82 (fun H locs hW hS _ _ => ?_)
  obtain ⟨σ3, hσ3⟩ : ∃ z, z = ups σ2 31 0 0 3 := ⟨_, rfl⟩
  rw [← hσ3] at hW
  refine k_if_eq (tgt := 90) hC dX8_line_85 (by decide) (by omega) (fun c8 => absurd c8 (by omega)) (fun c8 => ?_)
  refine k_iconst hC dX8_line_88 ?_
  have hW : WP Dg mcnt ad (mE cA ad (ups σ 31 0 0 3)) _ := (sw hW (by first | (rw [hσ3, hσ2, hσ1]; done) | (rw [hσ3, hσ2, hσ1]; exact ups_ups _ _ _ _ _ _) | (rw [hσ3, hσ2, hσ1, ups_ups, ups_ups]; done)))
  exact k_iret hX rfl hW hS dX8_line_89
set_option maxHeartbeats 1000000 in
set_option maxRecDepth 100000 in
theorem n_cut {l : Launch} {Dg : va_G} {cA : Nat → ClassId} {ad : Nat → Int → Nat} {oc : Nat → Nat} (hI : WI mcnt ad) {N M : Int} {τ : St} (σ : St) (a place : Int) (hτ : τ = ups σ 31 0 0 0) (hv : Inv N M τ) (hl0 : 0 ≤ a ∧ a < τ 26 0 0) (hpl : 0 ≤ place ∧ place < τ 3 a 0) : GI l yX8_cut wsX8_cut ({ frames := 2, cells := 0, slots := 0, locals := 43 } : Room) Dg cA mcnt ad oc (mE cA ad σ) [.ref (ad 0 0), .int (zi a), .int (zi place)] (τ 1 a place) (mE cA ad (fRem τ a place)) := by
  intro sz
  refine g_ent (cc := cX8_cut) (maxL := 5) (ret := (some .char)) (by decide) rfl hI (Nat.le_of_ble_eq_true rfl) ?_
  intro pgm env s₀ m₀ bel mth cod hX hW hS hsz ls hl
  subst hsz
  have hC := hX.1
  have hx := hC.1
  have hb := hC.2.1
  have hts := hC.2.2.2.1
  have hl : lv_has ls 5 [(0, .ref (ad 0 0)), (1, .int (zi a)), (2, .int (zi place))] := hl
  have hin_X8 : ∀ w ∈ wsX80, w ∈ wsX8_cut := by decide +kernel
  have hl_7 := hts (.fieldLink RX8 7 "KioskReelModel" "many" "[I") (by decide +kernel)
  have hl_13 := hts (.fieldLink RX8 13 "KioskReelModel" "kind" "[I") (by decide +kernel)
  have hl_16 := hts (.fieldLink RX8 16 "KioskReelModel" "number" "[I") (by decide +kernel)
  have eσ : ∀ (t : Nat) (i j : Int), t ≠ 31 → σ t i j = τ t i j := fun t i j h => by rw [hτ, ups_t _ h]
  have e26 := eσ 26 0 0 (by decide)
  have e27 := eσ 27 0 0 (by decide)
  have e28 := eσ 28 0 0 (by decide)
  have hA := hv.A
  unfold IvA at hA
  have e3 := eσ 3 a 0 (by decide)
  obtain ⟨r1, r2⟩ := hv.R a (by omega) (by omega)
  have r3 := (r2 place (by omega) (by omega)).1
  refine lv_aload_n hx hb dX8_cut_0 rfl (lv_at hl 0 rfl) ?_
  refine lv_aload_n hx hb dX8_cut_1 rfl (lv_at hl 0 rfl) ?_
  refine lv_iload_n hx hb dX8_cut_2 rfl (lv_at hl 1 rfl) ?_
  refine k_callI (As := [.int (zi a)]) (rest := [.ref (ad 0 0)]) hX hl.1 (n_isList hI σ a (by omega) (by omega)) (cwV 1 hts gX8_cut_X8_isList rfl rfl rfl (by decide +kernel) ⟨Nat.le_of_ble_eq_true rfl, Nat.le_of_ble_eq_true rfl⟩) (rc_M hC hW) hW hS ⟨Nat.zero_le _, Nat.zero_le _⟩ rfl rfl (Nat.le_of_ble_eq_true rfl) dX8_cut_3 (fun H locs hW hS _ _ => ?_)
  refine k_if_eq (tgt := 25) hC dX8_cut_6 (by decide) (by omega) (fun c1 => absurd c1 (by omega)) (fun c1 => ?_)
  refine lv_iload_n hx hb dX8_cut_9 rfl (lv_at hl 2 rfl) ?_
  refine k_iconst hC dX8_cut_10 ?_
  refine lv_aload_n hx hb dX8_cut_11 rfl (lv_at hl 0 rfl) ?_
  refine mg_many hC hW hin_X8 hl_7 dX8_cut_12 ?_
  refine lv_iload_n hx hb dX8_cut_15 rfl (lv_at hl 1 rfl) ?_
  refine ma_many hC hW (by omega) (v := σ 3 a 0) rfl dX8_cut_16 ?_
  refine k_iconst hC dX8_cut_17 ?_
  refine k_isub hC dX8_cut_18 ?_
  refine k_callSI (As := [.int (zi place), .int (zi 0), .int (zi ((σ 3 a 0) - 1))]) (rest := [.ref (ad 0 0)]) hX hl.1 (n_isIn hI σ place 0 ((σ 3 a 0) - 1) (by omega) (by omega) (by omega)) (cwS 3 hts gX8_cut_X8_isIn rfl rfl rfl (by decide +kernel) ⟨Nat.le_of_ble_eq_true rfl, Nat.le_of_ble_eq_true rfl⟩) hW hS ⟨Nat.zero_le _, Nat.zero_le _⟩ rfl rfl (Nat.le_of_ble_eq_true rfl) dX8_cut_19 (fun H locs hW hS _ _ => ?_)
  refine k_if_ne (tgt := 29) hC dX8_cut_22 (by decide) (by omega) (fun c2 => ?_) (fun c2 => absurd c2 (by omega))
  refine k_iconst hC dX8_cut_29 ?_
  refine k_iconst hC dX8_cut_30 ?_
  refine k_callI (As := [.int (zi 0), .int (zi 1)]) (rest := []) hX hl.1 (n_thr0 hI σ 1 (by omega)) (cwV 2 hts gX8_cut_X8_isThrown rfl rfl rfl (by decide +kernel) ⟨Nat.le_of_ble_eq_true rfl, Nat.le_of_ble_eq_true rfl⟩) (rc_M hC hW) hW hS ⟨Nat.zero_le _, Nat.zero_le _⟩ rfl rfl (Nat.le_of_ble_eq_true rfl) dX8_cut_31 (fun H locs hW hS _ _ => ?_)
  have hW : WP Dg mcnt ad (mE cA ad τ) _ := (sw hW hτ.symm)
  refine k_if_eq (tgt := 40) hC dX8_cut_34 (by decide) (by omega) (fun c3 => ?_) (fun c3 => absurd c3 (by omega))
  refine lv_aload_n hx hb dX8_cut_40 rfl (lv_at hl 0 rfl) ?_
  refine mg_kind hC hW hin_X8 hl_13 dX8_cut_41 ?_
  refine k_bipush hC dX8_cut_44 (by decide) ?_
  refine lv_iload_n hx hb dX8_cut_46 rfl (lv_at hl 1 rfl) ?_
  refine k_imul hC dX8_cut_47 ?_
  refine lv_iload_n hx hb dX8_cut_48 rfl (lv_at hl 2 rfl) ?_
  refine k_iadd hC dX8_cut_49 ?_
  refine ma_kind hC hW a place (by omega) (by omega) (by omega) (v := τ 1 a place) rfl dX8_cut_50 ?_
  refine k_i2c hC dX8_cut_51 (by omega) ?_
  refine lv_istore_n (lv' := [(3, .int (zi (τ 1 a place))), (0, .ref (ad 0 0)), (1, .int (zi a)), (2, .int (zi place))]) hx hb dX8_cut_52 rfl hl (by decide) rfl (fun ls hl => ?_)
  refine lv_aload_n hx hb dX8_cut_53 rfl (lv_at hl 1 rfl) ?_
  refine mg_many hC hW hin_X8 hl_7 dX8_cut_54 ?_
  refine lv_iload_n hx hb dX8_cut_57 rfl (lv_at hl 2 rfl) ?_
  refine lv_dup2_11 hx hb dX8_cut_58 rfl rfl ?_
  refine ma_many hC hW (by omega) (v := τ 3 a 0) rfl dX8_cut_59 ?_
  refine k_iconst hC dX8_cut_60 ?_
  refine k_isub hC dX8_cut_61 ?_
  refine ms_many hC hW (by omega) hS dX8_cut_62 (fun H locs hW hS => ?_)
  obtain ⟨σ1, hσ1⟩ : ∃ z, z = ups τ 3 a 0 ((τ 3 a 0) - 1) := ⟨_, rfl⟩
  rw [← hσ1] at hW
  refine k_bipush hC dX8_cut_63 (by decide) ?_
  refine lv_iload_n hx hb dX8_cut_65 rfl (lv_at hl 2 rfl) ?_
  refine k_imul hC dX8_cut_66 ?_
  refine lv_iload_n hx hb dX8_cut_67 rfl (lv_at hl 3 rfl) ?_
  refine k_iadd hC dX8_cut_68 ?_
  refine lv_istore (lv' := [(4, .int (zi ((20 * a) + place))), (3, .int (zi (τ 1 a place))), (0, .ref (ad 0 0)), (1, .int (zi a)), (2, .int (zi place))]) hx hb dX8_cut_69 hl (by decide) rfl (fun ls hl => ?_)
  have loop_71 : ∀ (fuel : Nat) (m : Int), τ 3 a 0 - 1 - m < (fuel : Int) → (place ≤ m) → (m ≤ τ 3 a 0 - 1) → ∀ (H : Heap) (locs : List Loc), WP Dg mcnt ad (mE cA ad (remP (ups τ 3 a 0 (τ 3 a 0 - 1)) a place m)) H → va_S (WA mcnt ad s₀.heap.size) s₀.heap H locs → ∀ ls : Array Slot, lv_has ls 5 [(4, .int (zi (20 * a + m))), (3, .int (zi (τ 1 a place))), (0, .ref (ad 0 0)), (1, .int (zi a)), (2, .int (zi place))] → W pgm l env ({ frames := 2, cells := 0, slots := 0, locals := 43 } : Room) s₀ m₀ ([.ref (ad 0 0), .int (zi a), .int (zi place)] : List Value).toArray bel mth cod H locs 0 0 (MQ bel (va_Qi (fun (rr : Int32) (_ : Unit) => rr = zi (τ 1 a place)) (gB Dg mcnt ad (mE cA ad (fRem τ a place))) (WA mcnt ad s₀.heap.size)) ([.ref (ad 0 0), .int (zi a), .int (zi place)] : List Value).toArray s₀ 0 0 (WA mcnt ad s₀.heap.size)) (F0 m₀ 71 ls []) := by
    intro fuel
    induction fuel with
    | zero => intro m hn i1 i2; exact absurd hn (by omega)
    | succ fuel ih_71 =>
      intro m hn i1 i2 H locs hW hS ls hl
      obtain ⟨σ2, hσ2⟩ : ∃ z, z = remP (ups τ 3 a 0 (τ 3 a 0 - 1)) a place m := ⟨_, rfl⟩
      rw [← hσ2] at hW
      refine lv_iload hx hb dX8_cut_71 (lv_at hl 0 rfl) ?_
      refine k_bipush hC dX8_cut_73 (by decide) ?_
      refine lv_iload_n hx hb dX8_cut_75 rfl (lv_at hl 3 rfl) ?_
      refine k_imul hC dX8_cut_76 ?_
      refine lv_aload_n hx hb dX8_cut_77 rfl (lv_at hl 2 rfl) ?_
      refine mg_many hC hW hin_X8 hl_7 dX8_cut_78 ?_
      refine lv_iload_n hx hb dX8_cut_81 rfl (lv_at hl 3 rfl) ?_
      refine ma_many hC hW (by omega) (v := τ 3 a 0 - 1) (by rw [hσ2, remP_o _ _ _ _ (by decide) (by decide), ups_eq]) dX8_cut_82 ?_
      refine k_iadd hC dX8_cut_83 ?_
      refine k_icmp_ge (tgt := 125) hC dX8_cut_84 (by decide) (by omega) (fun c4 => ?_) (fun c4 => ?_)
      · refine lv_iload_n hx hb dX8_cut_125 rfl (lv_at hl 1 rfl) ?_
        have hW : WP Dg mcnt ad (mE cA ad (fRem τ a place)) _ := (sw hW (by rw [hσ2, show m = τ 3 a 0 - 1 by omega]; rfl))
        exact k_cret hX (by omega) rfl hW hS dX8_cut_126
      · refine lv_aload_n hx hb dX8_cut_87 rfl (lv_at hl 2 rfl) ?_
        refine mg_kind hC hW hin_X8 hl_13 dX8_cut_88 ?_
        refine lv_iload hx hb dX8_cut_91 (lv_at hl 0 rfl) ?_
        refine lv_aload_n hx hb dX8_cut_93 rfl (lv_at hl 2 rfl) ?_
        refine mg_kind hC hW hin_X8 hl_13 dX8_cut_94 ?_
        refine lv_iload hx hb dX8_cut_97 (lv_at hl 0 rfl) ?_
        refine k_iconst hC dX8_cut_99 ?_
        refine k_iadd hC dX8_cut_100 ?_
        refine ma_kind hC hW a (m + 1) (by omega) (by omega) (by omega) (v := τ 1 a (m + 1)) (by rw [hσ2, remP_rd _ _ _ _ (by omega), ups_t _ (by decide)]) dX8_cut_101 ?_
        refine ms_kind hC hW a m (by omega) (by omega) (by omega) hS dX8_cut_102 (fun H locs hW hS => ?_)
        obtain ⟨σ3, hσ3⟩ : ∃ z, z = ups σ2 1 a m (τ 1 a (m + 1)) := ⟨_, rfl⟩
        rw [← hσ3] at hW
        refine lv_aload_n hx hb dX8_cut_103 rfl (lv_at hl 2 rfl) ?_
        refine mg_number hC hW hin_X8 hl_16 dX8_cut_104 ?_
        refine lv_iload hx hb dX8_cut_107 (lv_at hl 0 rfl) ?_
        refine lv_aload_n hx hb dX8_cut_109 rfl (lv_at hl 2 rfl) ?_
        refine mg_number hC hW hin_X8 hl_16 dX8_cut_110 ?_
        refine lv_iload hx hb dX8_cut_113 (lv_at hl 0 rfl) ?_
        refine k_iconst hC dX8_cut_115 ?_
        refine k_iadd hC dX8_cut_116 ?_
        refine ma_number hC hW a (m + 1) (by omega) (by omega) (by omega) (v := τ 2 a (m + 1)) (by rw [hσ3, ups_t _ (by decide), hσ2, remP_rd _ _ _ _ (by omega), ups_t _ (by decide)]) dX8_cut_117 ?_
        refine ms_number hC hW a m (by omega) (by omega) (by omega) hS dX8_cut_118 (fun H locs hW hS => ?_)
        obtain ⟨σ4, hσ4⟩ : ∃ z, z = ups σ3 2 a m (τ 2 a (m + 1)) := ⟨_, rfl⟩
        rw [← hσ4] at hW
        refine k_iinc (a := 20 * a + m) (lv' := [(4, .int (zi ((20 * a + m) + 1))), (3, .int (zi (τ 1 a place))), (0, .ref (ad 0 0)), (1, .int (zi a)), (2, .int (zi place))]) hC dX8_cut_119 hl (k := 0) rfl (by decide) rfl (fun ls hl => ?_)
        refine lv_goto (tgt := 71) hx hb dX8_cut_122 (by decide) ?_
        have hl := Eq.mp (congrArg (fun z : Int => lv_has ls 5 [(4, .int (zi z)), (3, .int (zi (τ 1 a place))), (0, .ref (ad 0 0)), (1, .int (zi a)), (2, .int (zi place))]) (show ((20 * a + m) + 1 : Int) = 20 * a + (m + 1) by omega)) hl
        exact ih_71 (m + 1) (by omega) (by omega) (by omega) _ _ (sw hW (by have q := remP_s (ups τ 3 a 0 (τ 3 a 0 - 1)) (r := a) (place := place) (m := m) (by omega); rw [ups_t _ (by decide), ups_t _ (by decide)] at q; rw [hσ4, hσ3, hσ2]; exact q)) hS _ (lv_sub hl [0, 1, 2, 3, 4] rfl)
  have hl := Eq.mp (congrArg (fun z : Int => lv_has ls 5 [(4, .int (zi z)), (3, .int (zi (τ 1 a place))), (0, .ref (ad 0 0)), (1, .int (zi a)), (2, .int (zi place))]) (show ((20 * a) + place : Int) = 20 * a + place by omega)) hl
  exact loop_71 (Int.toNat (τ 3 a 0 - 1 - place) + 1) place (by omega) (by omega) (by omega) _ _ (sw hW (by rw [hσ1]; exact (remP_0 _ a place).symm)) hS _ (lv_sub hl [0, 1, 2, 3, 4] rfl)
set_option maxHeartbeats 1000000 in
set_option maxRecDepth 100000 in
theorem n_cut_x {l : Launch} {Dg : va_G} {cA : Nat → ClassId} {ad : Nat → Int → Nat} {oc : Nat → Nat} (hI : WI mcnt ad) {N M : Int} (σ : St) (a place : Int) (hv : Inv N M σ) (h1 : ¬ (0 ≤ a ∧ a < σ 26 0 0)) (hxr : -2147483648 ≤ a ∧ a < 2147483648) : GI l yX8_cut wsX8_cut ({ frames := 2, cells := 0, slots := 0, locals := 43 } : Room) Dg cA mcnt ad oc (mE cA ad σ) [.ref (ad 0 0), .int (zi a), .int (zi place)] 45 (mE cA ad (ups σ 31 0 0 1)) := by
  intro sz
  refine g_ent (cc := cX8_cut) (maxL := 5) (ret := (some .char)) (by decide) rfl hI (Nat.le_of_ble_eq_true rfl) ?_
  intro pgm env s₀ m₀ bel mth cod hX hW hS hsz ls hl
  subst hsz
  have hC := hX.1
  have hx := hC.1
  have hb := hC.2.1
  have hts := hC.2.2.2.1
  have hl : lv_has ls 5 [(0, .ref (ad 0 0)), (1, .int (zi a)), (2, .int (zi place))] := hl
  have hA := hv.A
  unfold IvA at hA
  refine lv_aload_n hx hb dX8_cut_0 rfl (lv_at hl 0 rfl) ?_
  refine lv_aload_n hx hb dX8_cut_1 rfl (lv_at hl 0 rfl) ?_
  refine lv_iload_n hx hb dX8_cut_2 rfl (lv_at hl 1 rfl) ?_
  refine k_callI (As := [.int (zi a)]) (rest := [.ref (ad 0 0)]) hX hl.1 (n_isList hI σ a (by omega) (by omega)) (cwV 1 hts gX8_cut_X8_isList rfl rfl rfl (by decide +kernel) ⟨Nat.le_of_ble_eq_true rfl, Nat.le_of_ble_eq_true rfl⟩) (rc_M hC hW) hW hS ⟨Nat.zero_le _, Nat.zero_le _⟩ rfl rfl (Nat.le_of_ble_eq_true rfl) dX8_cut_3 (fun H locs hW hS _ _ => ?_)
  refine k_if_eq (tgt := 25) hC dX8_cut_6 (by decide) (by omega) (fun c1 => ?_) (fun c1 => absurd c1 (by omega))
  refine k_iconst hC dX8_cut_25 ?_
  refine lv_goto (tgt := 30) hx hb dX8_cut_26 (by decide) ?_
  refine k_iconst hC dX8_cut_30 ?_
  refine k_callI (As := [.int (zi 1), .int (zi 1)]) (rest := []) hX hl.1 (n_thr1 hI σ 1 (by omega)) (cwV 2 hts gX8_cut_X8_isThrown rfl rfl rfl (by decide +kernel) ⟨Nat.le_of_ble_eq_true rfl, Nat.le_of_ble_eq_true rfl⟩) (rc_M hC hW) hW hS ⟨Nat.zero_le _, Nat.zero_le _⟩ rfl rfl (Nat.le_of_ble_eq_true rfl) dX8_cut_31 (fun H locs hW hS _ _ => ?_)
  obtain ⟨σ1, hσ1⟩ : ∃ z, z = ups σ 31 0 0 1 := ⟨_, rfl⟩
  rw [← hσ1] at hW
  refine k_if_eq (tgt := 40) hC dX8_cut_34 (by decide) (by omega) (fun c2 => absurd c2 (by omega)) (fun c2 => ?_)
  refine k_bipush hC dX8_cut_37 (by decide) ?_
  have hW : WP Dg mcnt ad (mE cA ad (ups σ 31 0 0 1)) _ := (sw hW (by first | (rw [hσ1]; done) | (rw [hσ1]; exact ups_ups _ _ _ _ _ _) | (rw [hσ1, ups_ups, ups_ups]; done)))
  exact k_cret hX (by omega) rfl hW hS dX8_cut_39
set_option maxHeartbeats 1000000 in
set_option maxRecDepth 100000 in
theorem n_cut_y {l : Launch} {Dg : va_G} {cA : Nat → ClassId} {ad : Nat → Int → Nat} {oc : Nat → Nat} (hI : WI mcnt ad) {N M : Int} (σ : St) (a place : Int) (hv : Inv N M σ) (hl0 : 0 ≤ a ∧ a < σ 26 0 0) (h1 : ¬ (0 ≤ place ∧ place < σ 3 a 0)) (hxr : -2147483648 ≤ place ∧ place < 2147483648) : GI l yX8_cut wsX8_cut ({ frames := 2, cells := 0, slots := 0, locals := 43 } : Room) Dg cA mcnt ad oc (mE cA ad σ) [.ref (ad 0 0), .int (zi a), .int (zi place)] 45 (mE cA ad (ups σ 31 0 0 1)) := by
  intro sz
  refine g_ent (cc := cX8_cut) (maxL := 5) (ret := (some .char)) (by decide) rfl hI (Nat.le_of_ble_eq_true rfl) ?_
  intro pgm env s₀ m₀ bel mth cod hX hW hS hsz ls hl
  subst hsz
  have hC := hX.1
  have hx := hC.1
  have hb := hC.2.1
  have hts := hC.2.2.2.1
  have hl : lv_has ls 5 [(0, .ref (ad 0 0)), (1, .int (zi a)), (2, .int (zi place))] := hl
  have hin_X8 : ∀ w ∈ wsX80, w ∈ wsX8_cut := by decide +kernel
  have hl_7 := hts (.fieldLink RX8 7 "KioskReelModel" "many" "[I") (by decide +kernel)
  have hA := hv.A
  unfold IvA at hA
  obtain ⟨r1, r2⟩ := hv.R a (by omega) (by omega)
  refine lv_aload_n hx hb dX8_cut_0 rfl (lv_at hl 0 rfl) ?_
  refine lv_aload_n hx hb dX8_cut_1 rfl (lv_at hl 0 rfl) ?_
  refine lv_iload_n hx hb dX8_cut_2 rfl (lv_at hl 1 rfl) ?_
  refine k_callI (As := [.int (zi a)]) (rest := [.ref (ad 0 0)]) hX hl.1 (n_isList hI σ a (by omega) (by omega)) (cwV 1 hts gX8_cut_X8_isList rfl rfl rfl (by decide +kernel) ⟨Nat.le_of_ble_eq_true rfl, Nat.le_of_ble_eq_true rfl⟩) (rc_M hC hW) hW hS ⟨Nat.zero_le _, Nat.zero_le _⟩ rfl rfl (Nat.le_of_ble_eq_true rfl) dX8_cut_3 (fun H locs hW hS _ _ => ?_)
  refine k_if_eq (tgt := 25) hC dX8_cut_6 (by decide) (by omega) (fun c1 => absurd c1 (by omega)) (fun c1 => ?_)
  refine lv_iload_n hx hb dX8_cut_9 rfl (lv_at hl 2 rfl) ?_
  refine k_iconst hC dX8_cut_10 ?_
  refine lv_aload_n hx hb dX8_cut_11 rfl (lv_at hl 0 rfl) ?_
  refine mg_many hC hW hin_X8 hl_7 dX8_cut_12 ?_
  refine lv_iload_n hx hb dX8_cut_15 rfl (lv_at hl 1 rfl) ?_
  refine ma_many hC hW (by omega) (v := σ 3 a 0) rfl dX8_cut_16 ?_
  refine k_iconst hC dX8_cut_17 ?_
  refine k_isub hC dX8_cut_18 ?_
  refine k_callSI (As := [.int (zi place), .int (zi 0), .int (zi ((σ 3 a 0) - 1))]) (rest := [.ref (ad 0 0)]) hX hl.1 (n_isIn hI σ place 0 ((σ 3 a 0) - 1) (by omega) (by omega) (by omega)) (cwS 3 hts gX8_cut_X8_isIn rfl rfl rfl (by decide +kernel) ⟨Nat.le_of_ble_eq_true rfl, Nat.le_of_ble_eq_true rfl⟩) hW hS ⟨Nat.zero_le _, Nat.zero_le _⟩ rfl rfl (Nat.le_of_ble_eq_true rfl) dX8_cut_19 (fun H locs hW hS _ _ => ?_)
  refine k_if_ne (tgt := 29) hC dX8_cut_22 (by decide) (by omega) (fun c2 => absurd c2 (by omega)) (fun c2 => ?_)
  refine k_iconst hC dX8_cut_25 ?_
  refine lv_goto (tgt := 30) hx hb dX8_cut_26 (by decide) ?_
  refine k_iconst hC dX8_cut_30 ?_
  refine k_callI (As := [.int (zi 1), .int (zi 1)]) (rest := []) hX hl.1 (n_thr1 hI σ 1 (by omega)) (cwV 2 hts gX8_cut_X8_isThrown rfl rfl rfl (by decide +kernel) ⟨Nat.le_of_ble_eq_true rfl, Nat.le_of_ble_eq_true rfl⟩) (rc_M hC hW) hW hS ⟨Nat.zero_le _, Nat.zero_le _⟩ rfl rfl (Nat.le_of_ble_eq_true rfl) dX8_cut_31 (fun H locs hW hS _ _ => ?_)
  obtain ⟨σ1, hσ1⟩ : ∃ z, z = ups σ 31 0 0 1 := ⟨_, rfl⟩
  rw [← hσ1] at hW
  refine k_if_eq (tgt := 40) hC dX8_cut_34 (by decide) (by omega) (fun c3 => absurd c3 (by omega)) (fun c3 => ?_)
  refine k_bipush hC dX8_cut_37 (by decide) ?_
  have hW : WP Dg mcnt ad (mE cA ad (ups σ 31 0 0 1)) _ := (sw hW (by first | (rw [hσ1]; done) | (rw [hσ1]; exact ups_ups _ _ _ _ _ _) | (rw [hσ1, ups_ups, ups_ups]; done)))
  exact k_cret hX (by omega) rfl hW hS dX8_cut_39
set_option maxHeartbeats 1000000 in
set_option maxRecDepth 100000 in
theorem n_lines {l : Launch} {Dg : va_G} {cA : Nat → ClassId} {ad : Nat → Int → Nat} {oc : Nat → Nat} (hI : WI mcnt ad) {N M : Int} {τ : St} (σ : St) (a k : Int) (hτ : τ = ups σ 31 0 0 0) (hv : Inv N M τ) (hl0 : 0 ≤ a ∧ a < τ 26 0 0) (hkc : 0 ≤ k ∧ k < 65536) (hkm : mostN k ≠ -1) : GI l yX8_lines wsX8_lines ({ frames := 2, cells := 0, slots := 0, locals := 43 } : Room) Dg cA mcnt ad oc (mE cA ad σ) [.ref (ad 0 0), .int (zi a), .int (zi k)] (cN (fun j => decide (τ 1 a j = k)) (τ 3 a 0)) (mE cA ad τ) := by
  intro sz
  refine g_ent (cc := cX8_lines) (maxL := 5) (ret := (some .int)) (by decide) rfl hI (Nat.le_of_ble_eq_true rfl) ?_
  intro pgm env s₀ m₀ bel mth cod hX hW hS hsz ls hl
  subst hsz
  have hC := hX.1
  have hx := hC.1
  have hb := hC.2.1
  have hts := hC.2.2.2.1
  have hl : lv_has ls 5 [(0, .ref (ad 0 0)), (1, .int (zi a)), (2, .int (zi k))] := hl
  have hin_X8 : ∀ w ∈ wsX80, w ∈ wsX8_lines := by decide +kernel
  have hl_7 := hts (.fieldLink RX8 7 "KioskReelModel" "many" "[I") (by decide +kernel)
  have hl_13 := hts (.fieldLink RX8 13 "KioskReelModel" "kind" "[I") (by decide +kernel)
  have eσ : ∀ (t : Nat) (i j : Int), t ≠ 31 → σ t i j = τ t i j := fun t i j h => by rw [hτ, ups_t _ h]
  have e26 := eσ 26 0 0 (by decide)
  have e27 := eσ 27 0 0 (by decide)
  have e28 := eσ 28 0 0 (by decide)
  have hA := hv.A
  unfold IvA at hA
  have e3 := eσ 3 a 0 (by decide)
  obtain ⟨r1, r2⟩ := hv.R a (by omega) (by omega)
  refine lv_aload_n hx hb dX8_lines_0 rfl (lv_at hl 0 rfl) ?_
  refine lv_aload_n hx hb dX8_lines_1 rfl (lv_at hl 0 rfl) ?_
  refine lv_iload_n hx hb dX8_lines_2 rfl (lv_at hl 1 rfl) ?_
  refine k_callI (As := [.int (zi a)]) (rest := [.ref (ad 0 0)]) hX hl.1 (n_isList hI σ a (by omega) (by omega)) (cwV 1 hts gX8_lines_X8_isList rfl rfl rfl (by decide +kernel) ⟨Nat.le_of_ble_eq_true rfl, Nat.le_of_ble_eq_true rfl⟩) (rc_M hC hW) hW hS ⟨Nat.zero_le _, Nat.zero_le _⟩ rfl rfl (Nat.le_of_ble_eq_true rfl) dX8_lines_3 (fun H locs hW hS _ _ => ?_)
  refine k_if_ne (tgt := 13) hC dX8_lines_6 (by decide) (by omega) (fun c1 => ?_) (fun c1 => absurd c1 (by omega))
  refine k_iconst hC dX8_lines_13 ?_
  refine k_iconst hC dX8_lines_14 ?_
  refine k_callI (As := [.int (zi 0), .int (zi 1)]) (rest := []) hX hl.1 (n_thr0 hI σ 1 (by omega)) (cwV 2 hts gX8_lines_X8_isThrown rfl rfl rfl (by decide +kernel) ⟨Nat.le_of_ble_eq_true rfl, Nat.le_of_ble_eq_true rfl⟩) (rc_M hC hW) hW hS ⟨Nat.zero_le _, Nat.zero_le _⟩ rfl rfl (Nat.le_of_ble_eq_true rfl) dX8_lines_15 (fun H locs hW hS _ _ => ?_)
  have hW : WP Dg mcnt ad (mE cA ad τ) _ := (sw hW hτ.symm)
  refine k_if_ne (tgt := 41) hC dX8_lines_18 (by decide) (by omega) (fun c2 => absurd c2 (by omega)) (fun c2 => ?_)
  refine lv_aload_n hx hb dX8_lines_21 rfl (lv_at hl 0 rfl) ?_
  refine lv_iload_n hx hb dX8_lines_22 rfl (lv_at hl 2 rfl) ?_
  refine k_callSI (As := [.int (zi k)]) (rest := [.ref (ad 0 0)]) hX hl.1 (n_isKind hI τ k hkc) (cwS 1 hts gX8_lines_X8_isKind rfl rfl rfl (by decide +kernel) ⟨Nat.le_of_ble_eq_true rfl, Nat.le_of_ble_eq_true rfl⟩) hW hS ⟨Nat.zero_le _, Nat.zero_le _⟩ rfl rfl (Nat.le_of_ble_eq_true rfl) dX8_lines_23 (fun H locs hW hS _ _ => ?_)
  refine k_if_ne (tgt := 33) hC dX8_lines_26 (by decide) (by omega) (fun c3 => ?_) (fun c3 => absurd c3 (by omega))
  refine k_iconst hC dX8_lines_33 ?_
  refine k_iconst hC dX8_lines_34 ?_
  refine k_callI (As := [.int (zi 0), .int (zi 2)]) (rest := []) hX hl.1 (n_thr0 hI τ 2 (by omega)) (cwV 2 hts gX8_lines_X8_isThrown rfl rfl rfl (by decide +kernel) ⟨Nat.le_of_ble_eq_true rfl, Nat.le_of_ble_eq_true rfl⟩) (rc_M hC hW) hW hS ⟨Nat.zero_le _, Nat.zero_le _⟩ rfl rfl (Nat.le_of_ble_eq_true rfl) dX8_lines_35 (fun H locs hW hS _ _ => ?_)
  have hW : WP Dg mcnt ad (mE cA ad τ) _ := (sw hW (ups_id _ _ _ _ (by rw [hτ, ups_eq])))
  refine k_if_eq (tgt := 43) hC dX8_lines_38 (by decide) (by omega) (fun c4 => ?_) (fun c4 => absurd c4 (by omega))
  refine k_iconst hC dX8_lines_43 ?_
  refine lv_istore_n (lv' := [(3, .int (zi 0)), (0, .ref (ad 0 0)), (1, .int (zi a)), (2, .int (zi k))]) hx hb dX8_lines_44 rfl hl (by decide) rfl (fun ls hl => ?_)
  refine k_iconst hC dX8_lines_45 ?_
  refine lv_istore (lv' := [(4, .int (zi 0)), (3, .int (zi 0)), (0, .ref (ad 0 0)), (1, .int (zi a)), (2, .int (zi k))]) hx hb dX8_lines_46 hl (by decide) rfl (fun ls hl => ?_)
  have loop_48 : ∀ (fuel : Nat) (i : Int) (f : Int), τ 3 a 0 - i < (fuel : Int) → (0 ≤ i) → (i ≤ τ 3 a 0) → (f = cN (fun j => decide (τ 1 a j = k)) i) → ∀ (H : Heap) (locs : List Loc), WP Dg mcnt ad (mE cA ad τ) H → va_S (WA mcnt ad s₀.heap.size) s₀.heap H locs → ∀ ls : Array Slot, lv_has ls 5 [(4, .int (zi i)), (3, .int (zi f)), (0, .ref (ad 0 0)), (1, .int (zi a)), (2, .int (zi k))] → W pgm l env ({ frames := 2, cells := 0, slots := 0, locals := 43 } : Room) s₀ m₀ ([.ref (ad 0 0), .int (zi a), .int (zi k)] : List Value).toArray bel mth cod H locs 0 0 (MQ bel (va_Qi (fun (rr : Int32) (_ : Unit) => rr = zi (cN (fun j => decide (τ 1 a j = k)) (τ 3 a 0))) (gB Dg mcnt ad (mE cA ad τ)) (WA mcnt ad s₀.heap.size)) ([.ref (ad 0 0), .int (zi a), .int (zi k)] : List Value).toArray s₀ 0 0 (WA mcnt ad s₀.heap.size)) (F0 m₀ 48 ls []) := by
    intro fuel
    induction fuel with
    | zero => intro i f hn i1 i2 i3; exact absurd hn (by omega)
    | succ fuel ih_48 =>
      intro i f hn i1 i2 i3 H locs hW hS ls hl
      refine lv_iload hx hb dX8_lines_48 (lv_at hl 0 rfl) ?_
      refine lv_aload_n hx hb dX8_lines_50 rfl (lv_at hl 2 rfl) ?_
      refine mg_many hC hW hin_X8 hl_7 dX8_lines_51 ?_
      refine lv_iload_n hx hb dX8_lines_54 rfl (lv_at hl 3 rfl) ?_
      refine ma_many hC hW (by omega) (v := τ 3 a 0) rfl dX8_lines_55 ?_
      refine k_icmp_ge (tgt := 89) hC dX8_lines_56 (by decide) (by omega) (fun c5 => ?_) (fun c5 => ?_)
      · refine lv_iload_n hx hb dX8_lines_89 rfl (lv_at hl 1 rfl) ?_
        exact k_iret hX (by rw [i3, show i = τ 3 a 0 by omega]) hW hS dX8_lines_90
      · refine lv_iload_n hx hb dX8_lines_59 rfl (lv_at hl 1 rfl) ?_
        refine lv_aload_n hx hb dX8_lines_60 rfl (lv_at hl 2 rfl) ?_
        refine mg_kind hC hW hin_X8 hl_13 dX8_lines_61 ?_
        refine k_bipush hC dX8_lines_64 (by decide) ?_
        refine lv_iload_n hx hb dX8_lines_66 rfl (lv_at hl 3 rfl) ?_
        refine k_imul hC dX8_lines_67 ?_
        refine lv_iload hx hb dX8_lines_68 (lv_at hl 0 rfl) ?_
        refine k_iadd hC dX8_lines_70 ?_
        refine ma_kind hC hW a i (by omega) (by omega) (by omega) (v := τ 1 a i) rfl dX8_lines_71 ?_
        refine lv_iload_n hx hb dX8_lines_72 rfl (lv_at hl 4 rfl) ?_
        have hk1 := (r2 i (by omega) (by omega)).1
        refine k_icmp_ne (tgt := 80) hC dX8_lines_73 (by decide) (by omega) (fun c6 => ?_) (fun c6 => ?_)
        · refine k_iconst hC dX8_lines_80 ?_
          refine k_iadd hC dX8_lines_81 ?_
          refine lv_istore_n (lv' := [(3, .int (zi (f + 0))), (4, .int (zi i)), (0, .ref (ad 0 0)), (1, .int (zi a)), (2, .int (zi k))]) hx hb dX8_lines_82 rfl hl (by decide) rfl (fun ls hl => ?_)
          refine k_iinc (a := i) (lv' := [(4, .int (zi (i + 1))), (3, .int (zi (f + 0))), (0, .ref (ad 0 0)), (1, .int (zi a)), (2, .int (zi k))]) hC dX8_lines_83 hl (k := 1) rfl (by decide) rfl (fun ls hl => ?_)
          refine lv_goto (tgt := 48) hx hb dX8_lines_86 (by decide) ?_
          have hl := Eq.mp (congrArg (fun z : Int => lv_has ls 5 [(4, .int (zi z)), (3, .int (zi (f + 0))), (0, .ref (ad 0 0)), (1, .int (zi a)), (2, .int (zi k))]) (show (i + 1 : Int) = (i + 1) by omega)) hl
          have hl := Eq.mp (congrArg (fun z : Int => lv_has ls 5 [(4, .int (zi (i + 1))), (3, .int (zi z)), (0, .ref (ad 0 0)), (1, .int (zi a)), (2, .int (zi k))]) (show (f + 0 : Int) = (f + 0) by omega)) hl
          exact ih_48 (i + 1) (f + 0) (by omega) (by omega) (by omega) (by first | (rw [cN_t _ (by omega) (decide_eq_true (by omega))]; omega) | (rw [cN_f _ (by omega) (decide_eq_false (by omega))]; omega)) _ _ hW hS _ (lv_sub hl [0, 1, 2, 3, 4] rfl)
        · refine k_iconst hC dX8_lines_76 ?_
          refine lv_goto (tgt := 81) hx hb dX8_lines_77 (by decide) ?_
          refine k_iadd hC dX8_lines_81 ?_
          refine lv_istore_n (lv' := [(3, .int (zi (f + 1))), (4, .int (zi i)), (0, .ref (ad 0 0)), (1, .int (zi a)), (2, .int (zi k))]) hx hb dX8_lines_82 rfl hl (by decide) rfl (fun ls hl => ?_)
          refine k_iinc (a := i) (lv' := [(4, .int (zi (i + 1))), (3, .int (zi (f + 1))), (0, .ref (ad 0 0)), (1, .int (zi a)), (2, .int (zi k))]) hC dX8_lines_83 hl (k := 1) rfl (by decide) rfl (fun ls hl => ?_)
          refine lv_goto (tgt := 48) hx hb dX8_lines_86 (by decide) ?_
          have hl := Eq.mp (congrArg (fun z : Int => lv_has ls 5 [(4, .int (zi z)), (3, .int (zi (f + 1))), (0, .ref (ad 0 0)), (1, .int (zi a)), (2, .int (zi k))]) (show (i + 1 : Int) = (i + 1) by omega)) hl
          have hl := Eq.mp (congrArg (fun z : Int => lv_has ls 5 [(4, .int (zi (i + 1))), (3, .int (zi z)), (0, .ref (ad 0 0)), (1, .int (zi a)), (2, .int (zi k))]) (show (f + 1 : Int) = (f + 1) by omega)) hl
          exact ih_48 (i + 1) (f + 1) (by omega) (by omega) (by omega) (by first | (rw [cN_t _ (by omega) (decide_eq_true (by omega))]; omega) | (rw [cN_f _ (by omega) (decide_eq_false (by omega))]; omega)) _ _ hW hS _ (lv_sub hl [0, 1, 2, 3, 4] rfl)
  exact loop_48 (Int.toNat (τ 3 a 0 - 0) + 1) 0 0 (by omega) (by omega) (by omega) rfl _ _ hW hS _ (lv_sub hl [0, 1, 2, 3, 4] rfl)
set_option maxHeartbeats 1000000 in
set_option maxRecDepth 100000 in
theorem n_lines_x {l : Launch} {Dg : va_G} {cA : Nat → ClassId} {ad : Nat → Int → Nat} {oc : Nat → Nat} (hI : WI mcnt ad) {N M : Int} (σ : St) (a k : Int) (hv : Inv N M σ) (h1 : ¬ (0 ≤ a ∧ a < σ 26 0 0)) (hxr : -2147483648 ≤ a ∧ a < 2147483648) : GI l yX8_lines wsX8_lines ({ frames := 2, cells := 0, slots := 0, locals := 43 } : Room) Dg cA mcnt ad oc (mE cA ad σ) [.ref (ad 0 0), .int (zi a), .int (zi k)] 0 (mE cA ad (ups σ 31 0 0 1)) := by
  intro sz
  refine g_ent (cc := cX8_lines) (maxL := 5) (ret := (some .int)) (by decide) rfl hI (Nat.le_of_ble_eq_true rfl) ?_
  intro pgm env s₀ m₀ bel mth cod hX hW hS hsz ls hl
  subst hsz
  have hC := hX.1
  have hx := hC.1
  have hb := hC.2.1
  have hts := hC.2.2.2.1
  have hl : lv_has ls 5 [(0, .ref (ad 0 0)), (1, .int (zi a)), (2, .int (zi k))] := hl
  have hA := hv.A
  unfold IvA at hA
  refine lv_aload_n hx hb dX8_lines_0 rfl (lv_at hl 0 rfl) ?_
  refine lv_aload_n hx hb dX8_lines_1 rfl (lv_at hl 0 rfl) ?_
  refine lv_iload_n hx hb dX8_lines_2 rfl (lv_at hl 1 rfl) ?_
  refine k_callI (As := [.int (zi a)]) (rest := [.ref (ad 0 0)]) hX hl.1 (n_isList hI σ a (by omega) (by omega)) (cwV 1 hts gX8_lines_X8_isList rfl rfl rfl (by decide +kernel) ⟨Nat.le_of_ble_eq_true rfl, Nat.le_of_ble_eq_true rfl⟩) (rc_M hC hW) hW hS ⟨Nat.zero_le _, Nat.zero_le _⟩ rfl rfl (Nat.le_of_ble_eq_true rfl) dX8_lines_3 (fun H locs hW hS _ _ => ?_)
  refine k_if_ne (tgt := 13) hC dX8_lines_6 (by decide) (by omega) (fun c1 => absurd c1 (by omega)) (fun c1 => ?_)
  refine k_iconst hC dX8_lines_9 ?_
  refine lv_goto (tgt := 14) hx hb dX8_lines_10 (by decide) ?_
  refine k_iconst hC dX8_lines_14 ?_
  refine k_callI (As := [.int (zi 1), .int (zi 1)]) (rest := []) hX hl.1 (n_thr1 hI σ 1 (by omega)) (cwV 2 hts gX8_lines_X8_isThrown rfl rfl rfl (by decide +kernel) ⟨Nat.le_of_ble_eq_true rfl, Nat.le_of_ble_eq_true rfl⟩) (rc_M hC hW) hW hS ⟨Nat.zero_le _, Nat.zero_le _⟩ rfl rfl (Nat.le_of_ble_eq_true rfl) dX8_lines_15 (fun H locs hW hS _ _ => ?_)
  obtain ⟨σ1, hσ1⟩ : ∃ z, z = ups σ 31 0 0 1 := ⟨_, rfl⟩
  rw [← hσ1] at hW
  refine k_if_ne (tgt := 41) hC dX8_lines_18 (by decide) (by omega) (fun c2 => ?_) (fun c2 => absurd c2 (by omega))
  refine k_iconst hC dX8_lines_41 ?_
  have hW : WP Dg mcnt ad (mE cA ad (ups σ 31 0 0 1)) _ := (sw hW (by first | (rw [hσ1]; done) | (rw [hσ1]; exact ups_ups _ _ _ _ _ _) | (rw [hσ1, ups_ups, ups_ups]; done)))
  exact k_iret hX rfl hW hS dX8_lines_42
set_option maxHeartbeats 1000000 in
set_option maxRecDepth 100000 in
theorem n_lines_k {l : Launch} {Dg : va_G} {cA : Nat → ClassId} {ad : Nat → Int → Nat} {oc : Nat → Nat} (hI : WI mcnt ad) {N M : Int} (σ : St) (a k : Int) (hv : Inv N M σ) (hl0 : 0 ≤ a ∧ a < σ 26 0 0) (hkc : 0 ≤ k ∧ k < 65536) (hkm : mostN k = -1) : GI l yX8_lines wsX8_lines ({ frames := 2, cells := 0, slots := 0, locals := 43 } : Room) Dg cA mcnt ad oc (mE cA ad σ) [.ref (ad 0 0), .int (zi a), .int (zi k)] 0 (mE cA ad (ups σ 31 0 0 2)) := by
  intro sz
  refine g_ent (cc := cX8_lines) (maxL := 5) (ret := (some .int)) (by decide) rfl hI (Nat.le_of_ble_eq_true rfl) ?_
  intro pgm env s₀ m₀ bel mth cod hX hW hS hsz ls hl
  subst hsz
  have hC := hX.1
  have hx := hC.1
  have hb := hC.2.1
  have hts := hC.2.2.2.1
  have hl : lv_has ls 5 [(0, .ref (ad 0 0)), (1, .int (zi a)), (2, .int (zi k))] := hl
  have hA := hv.A
  unfold IvA at hA
  refine lv_aload_n hx hb dX8_lines_0 rfl (lv_at hl 0 rfl) ?_
  refine lv_aload_n hx hb dX8_lines_1 rfl (lv_at hl 0 rfl) ?_
  refine lv_iload_n hx hb dX8_lines_2 rfl (lv_at hl 1 rfl) ?_
  refine k_callI (As := [.int (zi a)]) (rest := [.ref (ad 0 0)]) hX hl.1 (n_isList hI σ a (by omega) (by omega)) (cwV 1 hts gX8_lines_X8_isList rfl rfl rfl (by decide +kernel) ⟨Nat.le_of_ble_eq_true rfl, Nat.le_of_ble_eq_true rfl⟩) (rc_M hC hW) hW hS ⟨Nat.zero_le _, Nat.zero_le _⟩ rfl rfl (Nat.le_of_ble_eq_true rfl) dX8_lines_3 (fun H locs hW hS _ _ => ?_)
  refine k_if_ne (tgt := 13) hC dX8_lines_6 (by decide) (by omega) (fun c1 => ?_) (fun c1 => absurd c1 (by omega))
  refine k_iconst hC dX8_lines_13 ?_
  refine k_iconst hC dX8_lines_14 ?_
  refine k_callI (As := [.int (zi 0), .int (zi 1)]) (rest := []) hX hl.1 (n_thr0 hI σ 1 (by omega)) (cwV 2 hts gX8_lines_X8_isThrown rfl rfl rfl (by decide +kernel) ⟨Nat.le_of_ble_eq_true rfl, Nat.le_of_ble_eq_true rfl⟩) (rc_M hC hW) hW hS ⟨Nat.zero_le _, Nat.zero_le _⟩ rfl rfl (Nat.le_of_ble_eq_true rfl) dX8_lines_15 (fun H locs hW hS _ _ => ?_)
  obtain ⟨σ1, hσ1⟩ : ∃ z, z = ups σ 31 0 0 0 := ⟨_, rfl⟩
  rw [← hσ1] at hW
  refine k_if_ne (tgt := 41) hC dX8_lines_18 (by decide) (by omega) (fun c2 => absurd c2 (by omega)) (fun c2 => ?_)
  refine lv_aload_n hx hb dX8_lines_21 rfl (lv_at hl 0 rfl) ?_
  refine lv_iload_n hx hb dX8_lines_22 rfl (lv_at hl 2 rfl) ?_
  refine k_callSI (As := [.int (zi k)]) (rest := [.ref (ad 0 0)]) hX hl.1 (n_isKind hI σ1 k hkc) (cwS 1 hts gX8_lines_X8_isKind rfl rfl rfl (by decide +kernel) ⟨Nat.le_of_ble_eq_true rfl, Nat.le_of_ble_eq_true rfl⟩) hW hS ⟨Nat.zero_le _, Nat.zero_le _⟩ rfl rfl (Nat.le_of_ble_eq_true rfl) dX8_lines_23 (fun H locs hW hS _ _ => ?_)
  refine k_if_ne (tgt := 33) hC dX8_lines_26 (by decide) (by omega) (fun c3 => absurd c3 (by omega)) (fun c3 => ?_)
  refine k_iconst hC dX8_lines_29 ?_
  refine lv_goto (tgt := 34) hx hb dX8_lines_30 (by decide) ?_
  refine k_iconst hC dX8_lines_34 ?_
  refine k_callI (As := [.int (zi 1), .int (zi 2)]) (rest := []) hX hl.1 (n_thr1 hI σ1 2 (by omega)) (cwV 2 hts gX8_lines_X8_isThrown rfl rfl rfl (by decide +kernel) ⟨Nat.le_of_ble_eq_true rfl, Nat.le_of_ble_eq_true rfl⟩) (rc_M hC hW) hW hS ⟨Nat.zero_le _, Nat.zero_le _⟩ rfl rfl (Nat.le_of_ble_eq_true rfl) dX8_lines_35 (fun H locs hW hS _ _ => ?_)
  obtain ⟨σ2, hσ2⟩ : ∃ z, z = ups σ1 31 0 0 2 := ⟨_, rfl⟩
  rw [← hσ2] at hW
  refine k_if_eq (tgt := 43) hC dX8_lines_38 (by decide) (by omega) (fun c4 => absurd c4 (by omega)) (fun c4 => ?_)
  refine k_iconst hC dX8_lines_41 ?_
  have hW : WP Dg mcnt ad (mE cA ad (ups σ 31 0 0 2)) _ := (sw hW (by first | (rw [hσ2, hσ1]; done) | (rw [hσ2, hσ1]; exact ups_ups _ _ _ _ _ _) | (rw [hσ2, hσ1, ups_ups, ups_ups]; done)))
  exact k_iret hX rfl hW hS dX8_lines_42
end M9
