section M11
set_option maxHeartbeats 1000000 in
set_option maxRecDepth 100000 in
theorem n_state {l : Launch} {Dg : va_G} {cA : Nat → ClassId} {ad : Nat → Int → Nat} {oc : Nat → Nat} (hI : WI mcnt ad) {N M : Int} {τ : St} (σ : St) (k : Int) (hτ : τ = ups σ 31 0 0 0) (hv : Inv N M τ) (hk : 0 ≤ k ∧ k < τ 27 0 0) : GI l yX8_state wsX8_state ({ frames := 2, cells := 0, slots := 0, locals := 43 } : Room) Dg cA mcnt ad oc (mE cA ad σ) [.ref (ad 0 0), .int (zi k)] (if τ 13 k 0 ≠ 0 then 111 else if τ 12 k 0 ≠ 0 then 102 else 112) (mE cA ad τ) := by
  intro sz
  refine g_ent (cc := cX8_state) (maxL := 2) (ret := (some .char)) (by decide) rfl hI (Nat.le_of_ble_eq_true rfl) ?_
  intro pgm env s₀ m₀ bel mth cod hX hW hS hsz ls hl
  subst hsz
  have hC := hX.1
  have hx := hC.1
  have hb := hC.2.1
  have hts := hC.2.2.2.1
  have hl : lv_has ls 2 [(0, .ref (ad 0 0)), (1, .int (zi k))] := hl
  have hin_X8 : ∀ w ∈ wsX80, w ∈ wsX8_state := by decide +kernel
  have hl_38 := hts (.fieldLink RX8 38 "KioskReelModel" "isFrozen" "[Z") (by decide +kernel)
  have hl_41 := hts (.fieldLink RX8 41 "KioskReelModel" "isOut" "[Z") (by decide +kernel)
  have eσ : ∀ (t : Nat) (i j : Int), t ≠ 31 → σ t i j = τ t i j := fun t i j h => by rw [hτ, ups_t _ h]
  have e26 := eσ 26 0 0 (by decide)
  have e27 := eσ 27 0 0 (by decide)
  have e28 := eσ 28 0 0 (by decide)
  have hA := hv.A
  unfold IvA at hA
  have hk6 : 0 ≤ k ∧ k < 6 := by omega
  obtain ⟨hK1, hK2, hK3, hK4, hK5, hK6, hK7, hK8⟩ := hv.K k hk6.1 hk6.2
  refine lv_aload_n hx hb dX8_state_0 rfl (lv_at hl 0 rfl) ?_
  refine lv_aload_n hx hb dX8_state_1 rfl (lv_at hl 0 rfl) ?_
  refine lv_iload_n hx hb dX8_state_2 rfl (lv_at hl 1 rfl) ?_
  refine k_callI (As := [.int (zi k)]) (rest := [.ref (ad 0 0)]) hX hl.1 (n_isKiosk hI σ k (by omega) (by omega)) (cwV 1 hts gX8_state_X8_isKiosk rfl rfl rfl (by decide +kernel) ⟨Nat.le_of_ble_eq_true rfl, Nat.le_of_ble_eq_true rfl⟩) (rc_M hC hW) hW hS ⟨Nat.zero_le _, Nat.zero_le _⟩ rfl rfl (Nat.le_of_ble_eq_true rfl) dX8_state_3 (fun H locs hW hS _ _ => ?_)
  refine k_if_ne (tgt := 13) hC dX8_state_6 (by decide) (by omega) (fun c1 => ?_) (fun c1 => absurd c1 (by omega))
  refine k_iconst hC dX8_state_13 ?_
  refine k_iconst hC dX8_state_14 ?_
  refine k_callI (As := [.int (zi 0), .int (zi 1)]) (rest := []) hX hl.1 (n_thr0 hI σ 1 (by omega)) (cwV 2 hts gX8_state_X8_isThrown rfl rfl rfl (by decide +kernel) ⟨Nat.le_of_ble_eq_true rfl, Nat.le_of_ble_eq_true rfl⟩) (rc_M hC hW) hW hS ⟨Nat.zero_le _, Nat.zero_le _⟩ rfl rfl (Nat.le_of_ble_eq_true rfl) dX8_state_15 (fun H locs hW hS _ _ => ?_)
  have hW : WP Dg mcnt ad (mE cA ad τ) _ := (sw hW hτ.symm)
  refine k_if_eq (tgt := 26) hC dX8_state_18 (by decide) (by omega) (fun c2 => ?_) (fun c2 => absurd c2 (by omega))
  refine lv_aload_n hx hb dX8_state_26 rfl (lv_at hl 0 rfl) ?_
  refine mg_isOut hC hW hin_X8 hl_41 dX8_state_27 ?_
  refine lv_iload_n hx hb dX8_state_30 rfl (lv_at hl 1 rfl) ?_
  refine ma_isOut hC hW (by omega) (v := τ 13 k 0) rfl dX8_state_31 ?_
  refine k_if_eq (tgt := 40) hC dX8_state_32 (by decide) (by omega) (fun c3 => ?_) (fun c3 => ?_)
  · refine lv_aload_n hx hb dX8_state_40 rfl (lv_at hl 0 rfl) ?_
    refine mg_isFrozen hC hW hin_X8 hl_38 dX8_state_41 ?_
    refine lv_iload_n hx hb dX8_state_44 rfl (lv_at hl 1 rfl) ?_
    refine ma_isFrozen hC hW (by omega) (v := τ 12 k 0) rfl dX8_state_45 ?_
    refine k_if_eq (tgt := 54) hC dX8_state_46 (by decide) (by omega) (fun c4 => ?_) (fun c4 => ?_)
    · refine k_bipush hC dX8_state_54 (by decide) ?_
      exact k_cret hX (by omega) (by omega) hW hS dX8_state_56
    · refine k_bipush hC dX8_state_49 (by decide) ?_
      refine lv_goto (tgt := 56) hx hb dX8_state_51 (by decide) ?_
      exact k_cret hX (by omega) (by omega) hW hS dX8_state_56
  · refine k_bipush hC dX8_state_35 (by decide) ?_
    refine lv_goto (tgt := 56) hx hb dX8_state_37 (by decide) ?_
    exact k_cret hX (by omega) (by omega) hW hS dX8_state_56
set_option maxHeartbeats 1000000 in
set_option maxRecDepth 100000 in
theorem n_state_x {l : Launch} {Dg : va_G} {cA : Nat → ClassId} {ad : Nat → Int → Nat} {oc : Nat → Nat} (hI : WI mcnt ad) {N M : Int} (σ : St) (k : Int) (hv : Inv N M σ) (h1 : ¬ (0 ≤ k ∧ k < σ 27 0 0)) (hxr : -2147483648 ≤ k ∧ k < 2147483648) : GI l yX8_state wsX8_state ({ frames := 2, cells := 0, slots := 0, locals := 43 } : Room) Dg cA mcnt ad oc (mE cA ad σ) [.ref (ad 0 0), .int (zi k)] 45 (mE cA ad (ups σ 31 0 0 1)) := by
  intro sz
  refine g_ent (cc := cX8_state) (maxL := 2) (ret := (some .char)) (by decide) rfl hI (Nat.le_of_ble_eq_true rfl) ?_
  intro pgm env s₀ m₀ bel mth cod hX hW hS hsz ls hl
  subst hsz
  have hC := hX.1
  have hx := hC.1
  have hb := hC.2.1
  have hts := hC.2.2.2.1
  have hl : lv_has ls 2 [(0, .ref (ad 0 0)), (1, .int (zi k))] := hl
  have hA := hv.A
  unfold IvA at hA
  refine lv_aload_n hx hb dX8_state_0 rfl (lv_at hl 0 rfl) ?_
  refine lv_aload_n hx hb dX8_state_1 rfl (lv_at hl 0 rfl) ?_
  refine lv_iload_n hx hb dX8_state_2 rfl (lv_at hl 1 rfl) ?_
  refine k_callI (As := [.int (zi k)]) (rest := [.ref (ad 0 0)]) hX hl.1 (n_isKiosk hI σ k (by omega) (by omega)) (cwV 1 hts gX8_state_X8_isKiosk rfl rfl rfl (by decide +kernel) ⟨Nat.le_of_ble_eq_true rfl, Nat.le_of_ble_eq_true rfl⟩) (rc_M hC hW) hW hS ⟨Nat.zero_le _, Nat.zero_le _⟩ rfl rfl (Nat.le_of_ble_eq_true rfl) dX8_state_3 (fun H locs hW hS _ _ => ?_)
  refine k_if_ne (tgt := 13) hC dX8_state_6 (by decide) (by omega) (fun c1 => absurd c1 (by omega)) (fun c1 => ?_)
  refine k_iconst hC dX8_state_9 ?_
  refine lv_goto (tgt := 14) hx hb dX8_state_10 (by decide) ?_
  refine k_iconst hC dX8_state_14 ?_
  refine k_callI (As := [.int (zi 1), .int (zi 1)]) (rest := []) hX hl.1 (n_thr1 hI σ 1 (by omega)) (cwV 2 hts gX8_state_X8_isThrown rfl rfl rfl (by decide +kernel) ⟨Nat.le_of_ble_eq_true rfl, Nat.le_of_ble_eq_true rfl⟩) (rc_M hC hW) hW hS ⟨Nat.zero_le _, Nat.zero_le _⟩ rfl rfl (Nat.le_of_ble_eq_true rfl) dX8_state_15 (fun H locs hW hS _ _ => ?_)
  obtain ⟨σ1, hσ1⟩ : ∃ z, z = ups σ 31 0 0 1 := ⟨_, rfl⟩
  rw [← hσ1] at hW
  refine k_if_eq (tgt := 26) hC dX8_state_18 (by decide) (by omega) (fun c2 => absurd c2 (by omega)) (fun c2 => ?_)
  refine k_bipush hC dX8_state_21 (by decide) ?_
  refine lv_goto (tgt := 56) hx hb dX8_state_23 (by decide) ?_
  have hW : WP Dg mcnt ad (mE cA ad (ups σ 31 0 0 1)) _ := (sw hW (by first | (rw [hσ1]; done) | (rw [hσ1]; exact ups_ups _ _ _ _ _ _) | (rw [hσ1, ups_ups, ups_ups]; done)))
  exact k_cret hX (by omega) rfl hW hS dX8_state_56
set_option maxHeartbeats 1000000 in
set_option maxRecDepth 100000 in
theorem n_plays {l : Launch} {Dg : va_G} {cA : Nat → ClassId} {ad : Nat → Int → Nat} {oc : Nat → Nat} (hI : WI mcnt ad) {N M : Int} {τ : St} (σ : St) (k : Int) (hτ : τ = ups σ 31 0 0 0) (hv : Inv N M τ) (hk : 0 ≤ k ∧ k < τ 27 0 0) (h6 : τ 6 k 0 = 1) : GI l yX8_plays wsX8_plays ({ frames := 3, cells := 0, slots := 0, locals := 64 } : Room) Dg cA mcnt ad oc (mE cA ad σ) [.ref (ad 0 0), .int (zi k)] (τ 8 k 0) (mE cA ad τ) := by
  intro sz
  refine g_ent (cc := cX8_plays) (maxL := 2) (ret := (some .int)) (by decide) rfl hI (Nat.le_of_ble_eq_true rfl) ?_
  intro pgm env s₀ m₀ bel mth cod hX hW hS hsz ls hl
  subst hsz
  have hC := hX.1
  have hx := hC.1
  have hb := hC.2.1
  have hts := hC.2.2.2.1
  have hl : lv_has ls 2 [(0, .ref (ad 0 0)), (1, .int (zi k))] := hl
  have hin_X8 : ∀ w ∈ wsX80, w ∈ wsX8_plays := by decide +kernel
  have hl_47 := hts (.fieldLink RX8 47 "KioskReelModel" "at" "[I") (by decide +kernel)
  have eσ : ∀ (t : Nat) (i j : Int), t ≠ 31 → σ t i j = τ t i j := fun t i j h => by rw [hτ, ups_t _ h]
  have e26 := eσ 26 0 0 (by decide)
  have e27 := eσ 27 0 0 (by decide)
  have e28 := eσ 28 0 0 (by decide)
  have hA := hv.A
  unfold IvA at hA
  have hk6 : 0 ≤ k ∧ k < 6 := by omega
  refine lv_aload_n hx hb dX8_plays_0 rfl (lv_at hl 0 rfl) ?_
  refine lv_iload_n hx hb dX8_plays_1 rfl (lv_at hl 1 rfl) ?_
  refine k_callI (As := [.int (zi k)]) (rest := []) hX hl.1 (n_isNone0 hI σ k (by omega) (by omega) (by rw [eσ 6 k 0 (by decide)]; exact h6)) (cwV 1 hts gX8_plays_X8_isNone rfl rfl rfl (by decide +kernel) ⟨Nat.le_of_ble_eq_true rfl, Nat.le_of_ble_eq_true rfl⟩) (rc_M hC hW) hW hS ⟨Nat.zero_le _, Nat.zero_le _⟩ rfl rfl (Nat.le_of_ble_eq_true rfl) dX8_plays_2 (fun H locs hW hS _ _ => ?_)
  have hW : WP Dg mcnt ad (mE cA ad τ) _ := (sw hW hτ.symm)
  refine k_if_eq (tgt := 12) hC dX8_plays_5 (by decide) (by omega) (fun c1 => ?_) (fun c1 => absurd c1 (by omega))
  refine lv_aload_n hx hb dX8_plays_12 rfl (lv_at hl 0 rfl) ?_
  refine mg_at hC hW hin_X8 hl_47 dX8_plays_13 ?_
  refine lv_iload_n hx hb dX8_plays_16 rfl (lv_at hl 1 rfl) ?_
  refine ma_at hC hW (by omega) (v := τ 8 k 0) rfl dX8_plays_17 ?_
  exact k_iret hX rfl hW hS dX8_plays_18
set_option maxHeartbeats 1000000 in
set_option maxRecDepth 100000 in
theorem n_count {l : Launch} {Dg : va_G} {cA : Nat → ClassId} {ad : Nat → Int → Nat} {oc : Nat → Nat} (hI : WI mcnt ad) {N M : Int} {τ : St} (σ : St) (k : Int) (hτ : τ = ups σ 31 0 0 0) (hv : Inv N M τ) (hk : 0 ≤ k ∧ k < τ 27 0 0) (h6 : τ 6 k 0 = 1) : GI l yX8_count wsX8_count ({ frames := 3, cells := 0, slots := 0, locals := 64 } : Room) Dg cA mcnt ad oc (mE cA ad σ) [.ref (ad 0 0), .int (zi k)] (τ 9 k 0) (mE cA ad τ) := by
  intro sz
  refine g_ent (cc := cX8_count) (maxL := 2) (ret := (some .int)) (by decide) rfl hI (Nat.le_of_ble_eq_true rfl) ?_
  intro pgm env s₀ m₀ bel mth cod hX hW hS hsz ls hl
  subst hsz
  have hC := hX.1
  have hx := hC.1
  have hb := hC.2.1
  have hts := hC.2.2.2.1
  have hl : lv_has ls 2 [(0, .ref (ad 0 0)), (1, .int (zi k))] := hl
  have hin_X8 : ∀ w ∈ wsX80, w ∈ wsX8_count := by decide +kernel
  have hl_50 := hts (.fieldLink RX8 50 "KioskReelModel" "counts" "[I") (by decide +kernel)
  have eσ : ∀ (t : Nat) (i j : Int), t ≠ 31 → σ t i j = τ t i j := fun t i j h => by rw [hτ, ups_t _ h]
  have e26 := eσ 26 0 0 (by decide)
  have e27 := eσ 27 0 0 (by decide)
  have e28 := eσ 28 0 0 (by decide)
  have hA := hv.A
  unfold IvA at hA
  have hk6 : 0 ≤ k ∧ k < 6 := by omega
  refine lv_aload_n hx hb dX8_count_0 rfl (lv_at hl 0 rfl) ?_
  refine lv_iload_n hx hb dX8_count_1 rfl (lv_at hl 1 rfl) ?_
  refine k_callI (As := [.int (zi k)]) (rest := []) hX hl.1 (n_isNone0 hI σ k (by omega) (by omega) (by rw [eσ 6 k 0 (by decide)]; exact h6)) (cwV 1 hts gX8_count_X8_isNone rfl rfl rfl (by decide +kernel) ⟨Nat.le_of_ble_eq_true rfl, Nat.le_of_ble_eq_true rfl⟩) (rc_M hC hW) hW hS ⟨Nat.zero_le _, Nat.zero_le _⟩ rfl rfl (Nat.le_of_ble_eq_true rfl) dX8_count_2 (fun H locs hW hS _ _ => ?_)
  have hW : WP Dg mcnt ad (mE cA ad τ) _ := (sw hW hτ.symm)
  refine k_if_eq (tgt := 12) hC dX8_count_5 (by decide) (by omega) (fun c1 => ?_) (fun c1 => absurd c1 (by omega))
  refine lv_aload_n hx hb dX8_count_12 rfl (lv_at hl 0 rfl) ?_
  refine mg_counts hC hW hin_X8 hl_50 dX8_count_13 ?_
  refine lv_iload_n hx hb dX8_count_16 rfl (lv_at hl 1 rfl) ?_
  refine ma_counts hC hW (by omega) (v := τ 9 k 0) rfl dX8_count_17 ?_
  exact k_iret hX rfl hW hS dX8_count_18
set_option maxHeartbeats 1000000 in
set_option maxRecDepth 100000 in
theorem n_waits {l : Launch} {Dg : va_G} {cA : Nat → ClassId} {ad : Nat → Int → Nat} {oc : Nat → Nat} (hI : WI mcnt ad) {N M : Int} {τ : St} (σ : St) (k : Int) (hτ : τ = ups σ 31 0 0 0) (hv : Inv N M τ) (hk : 0 ≤ k ∧ k < τ 27 0 0) (h6 : τ 6 k 0 = 1) : GI l yX8_waits wsX8_waits ({ frames := 3, cells := 0, slots := 0, locals := 64 } : Room) Dg cA mcnt ad oc (mE cA ad σ) [.ref (ad 0 0), .int (zi k)] (if τ 11 k 0 ≠ -1 then 100 else τ 10 k 0) (mE cA ad τ) := by
  intro sz
  refine g_ent (cc := cX8_waits) (maxL := 2) (ret := (some .int)) (by decide) rfl hI (Nat.le_of_ble_eq_true rfl) ?_
  intro pgm env s₀ m₀ bel mth cod hX hW hS hsz ls hl
  subst hsz
  have hC := hX.1
  have hx := hC.1
  have hb := hC.2.1
  have hts := hC.2.2.2.1
  have hl : lv_has ls 2 [(0, .ref (ad 0 0)), (1, .int (zi k))] := hl
  have hin_X8 : ∀ w ∈ wsX80, w ∈ wsX8_waits := by decide +kernel
  have hl_53 := hts (.fieldLink RX8 53 "KioskReelModel" "ticks" "[I") (by decide +kernel)
  have hl_56 := hts (.fieldLink RX8 56 "KioskReelModel" "wanted" "[I") (by decide +kernel)
  have eσ : ∀ (t : Nat) (i j : Int), t ≠ 31 → σ t i j = τ t i j := fun t i j h => by rw [hτ, ups_t _ h]
  have e26 := eσ 26 0 0 (by decide)
  have e27 := eσ 27 0 0 (by decide)
  have e28 := eσ 28 0 0 (by decide)
  have hA := hv.A
  unfold IvA at hA
  have hk6 : 0 ≤ k ∧ k < 6 := by omega
  have hU := hv.U k hk6.1 hk6.2
  have hU2 := hU.2.2 h6
  refine lv_aload_n hx hb dX8_waits_0 rfl (lv_at hl 0 rfl) ?_
  refine lv_iload_n hx hb dX8_waits_1 rfl (lv_at hl 1 rfl) ?_
  refine k_callI (As := [.int (zi k)]) (rest := []) hX hl.1 (n_isNone0 hI σ k (by omega) (by omega) (by rw [eσ 6 k 0 (by decide)]; exact h6)) (cwV 1 hts gX8_waits_X8_isNone rfl rfl rfl (by decide +kernel) ⟨Nat.le_of_ble_eq_true rfl, Nat.le_of_ble_eq_true rfl⟩) (rc_M hC hW) hW hS ⟨Nat.zero_le _, Nat.zero_le _⟩ rfl rfl (Nat.le_of_ble_eq_true rfl) dX8_waits_2 (fun H locs hW hS _ _ => ?_)
  have hW : WP Dg mcnt ad (mE cA ad τ) _ := (sw hW hτ.symm)
  refine k_if_eq (tgt := 12) hC dX8_waits_5 (by decide) (by omega) (fun c1 => ?_) (fun c1 => absurd c1 (by omega))
  refine lv_aload_n hx hb dX8_waits_12 rfl (lv_at hl 0 rfl) ?_
  refine mg_wanted hC hW hin_X8 hl_56 dX8_waits_13 ?_
  refine lv_iload_n hx hb dX8_waits_16 rfl (lv_at hl 1 rfl) ?_
  refine ma_wanted hC hW (by omega) (v := τ 25 k 0) rfl dX8_waits_17 ?_
  refine k_if_lt (tgt := 26) hC dX8_waits_18 (by decide) (by omega) (fun c2 => ?_) (fun c2 => ?_)
  · refine lv_aload_n hx hb dX8_waits_26 rfl (lv_at hl 0 rfl) ?_
    refine mg_ticks hC hW hin_X8 hl_53 dX8_waits_27 ?_
    refine lv_iload_n hx hb dX8_waits_30 rfl (lv_at hl 1 rfl) ?_
    refine ma_ticks hC hW (by omega) (v := τ 10 k 0) rfl dX8_waits_31 ?_
    exact k_iret hX (by first | rw [if_pos (by omega)] | rw [if_neg (by omega)]) hW hS dX8_waits_32
  · refine k_bipush hC dX8_waits_21 (by decide) ?_
    refine lv_goto (tgt := 32) hx hb dX8_waits_23 (by decide) ?_
    exact k_iret hX (by first | rw [if_pos (by omega)] | rw [if_neg (by omega)]) hW hS dX8_waits_32
set_option maxHeartbeats 1000000 in
set_option maxRecDepth 100000 in
theorem n_next {l : Launch} {Dg : va_G} {cA : Nat → ClassId} {ad : Nat → Int → Nat} {oc : Nat → Nat} (hI : WI mcnt ad) {N M : Int} {τ : St} (σ : St) (k : Int) (hτ : τ = ups σ 31 0 0 0) (hv : Inv N M τ) (hk : 0 ≤ k ∧ k < τ 27 0 0) (h6 : τ 6 k 0 = 1) : GI l yX8_next wsX8_next ({ frames := 3, cells := 0, slots := 0, locals := 64 } : Room) Dg cA mcnt ad oc (mE cA ad σ) [.ref (ad 0 0), .int (zi k)] (100 * τ 5 k 0 + τ 4 k (τ 5 k 0 - 1)) (mE cA ad τ) := by
  intro sz
  refine g_ent (cc := cX8_next) (maxL := 2) (ret := (some .int)) (by decide) rfl hI (Nat.le_of_ble_eq_true rfl) ?_
  intro pgm env s₀ m₀ bel mth cod hX hW hS hsz ls hl
  subst hsz
  have hC := hX.1
  have hx := hC.1
  have hb := hC.2.1
  have hts := hC.2.2.2.1
  have hl : lv_has ls 2 [(0, .ref (ad 0 0)), (1, .int (zi k))] := hl
  have hin_X8 : ∀ w ∈ wsX80, w ∈ wsX8_next := by decide +kernel
  have hl_31 := hts (.fieldLink RX8 31 "KioskReelModel" "pileNext" "[I") (by decide +kernel)
  have hl_44 := hts (.fieldLink RX8 44 "KioskReelModel" "depth" "[I") (by decide +kernel)
  have eσ : ∀ (t : Nat) (i j : Int), t ≠ 31 → σ t i j = τ t i j := fun t i j h => by rw [hτ, ups_t _ h]
  have e26 := eσ 26 0 0 (by decide)
  have e27 := eσ 27 0 0 (by decide)
  have e28 := eσ 28 0 0 (by decide)
  have hA := hv.A
  unfold IvA at hA
  have hk6 : 0 ≤ k ∧ k < 6 := by omega
  obtain ⟨hD1, hD2⟩ := hv.D k hk6.1 hk6.2
  have hD3 := hD2 h6
  refine lv_aload_n hx hb dX8_next_0 rfl (lv_at hl 0 rfl) ?_
  refine lv_iload_n hx hb dX8_next_1 rfl (lv_at hl 1 rfl) ?_
  refine k_callI (As := [.int (zi k)]) (rest := []) hX hl.1 (n_isNone0 hI σ k (by omega) (by omega) (by rw [eσ 6 k 0 (by decide)]; exact h6)) (cwV 1 hts gX8_next_X8_isNone rfl rfl rfl (by decide +kernel) ⟨Nat.le_of_ble_eq_true rfl, Nat.le_of_ble_eq_true rfl⟩) (rc_M hC hW) hW hS ⟨Nat.zero_le _, Nat.zero_le _⟩ rfl rfl (Nat.le_of_ble_eq_true rfl) dX8_next_2 (fun H locs hW hS _ _ => ?_)
  have hW : WP Dg mcnt ad (mE cA ad τ) _ := (sw hW hτ.symm)
  refine k_if_eq (tgt := 12) hC dX8_next_5 (by decide) (by omega) (fun c1 => ?_) (fun c1 => absurd c1 (by omega))
  refine k_bipush hC dX8_next_12 (by decide) ?_
  refine lv_aload_n hx hb dX8_next_14 rfl (lv_at hl 0 rfl) ?_
  refine mg_depth hC hW hin_X8 hl_44 dX8_next_15 ?_
  refine lv_iload_n hx hb dX8_next_18 rfl (lv_at hl 1 rfl) ?_
  refine ma_depth hC hW (by omega) (v := τ 24 k 0) rfl dX8_next_19 ?_
  refine k_imul hC dX8_next_20 ?_
  refine lv_aload_n hx hb dX8_next_21 rfl (lv_at hl 0 rfl) ?_
  refine mg_pileNext hC hW hin_X8 hl_31 dX8_next_22 ?_
  refine lv_aload_n hx hb dX8_next_25 rfl (lv_at hl 0 rfl) ?_
  refine lv_iload_n hx hb dX8_next_26 rfl (lv_at hl 1 rfl) ?_
  refine k_callI (As := [.int (zi k)]) (rest := [.ref (ad 8 0), .int (zi (100 * (τ 24 k 0)))]) hX hl.1 (n_top hI τ k hk6 (by omega) (by omega)) (cwV 1 hts gX8_next_X8_top rfl rfl rfl (by decide +kernel) ⟨Nat.le_of_ble_eq_true rfl, Nat.le_of_ble_eq_true rfl⟩) (rc_M hC hW) hW hS ⟨Nat.zero_le _, Nat.zero_le _⟩ rfl rfl (Nat.le_of_ble_eq_true rfl) dX8_next_27 (fun H locs hW hS _ _ => ?_)
  refine ma_pileNext hC hW k (τ 5 k 0 - 1) (by omega) (by omega) (by omega) (v := τ 4 k (τ 5 k 0 - 1)) rfl dX8_next_30 ?_
  refine k_iadd hC dX8_next_31 ?_
  exact k_iret hX (by omega) hW hS dX8_next_32
set_option maxHeartbeats 1000000 in
set_option maxRecDepth 100000 in
theorem n_plays_x {l : Launch} {Dg : va_G} {cA : Nat → ClassId} {ad : Nat → Int → Nat} {oc : Nat → Nat} (hI : WI mcnt ad) {N M : Int} (σ : St) (k : Int) (hv : Inv N M σ) (h1 : ¬ (0 ≤ k ∧ k < σ 27 0 0)) (hxr : -2147483648 ≤ k ∧ k < 2147483648) : GI l yX8_plays wsX8_plays ({ frames := 3, cells := 0, slots := 0, locals := 64 } : Room) Dg cA mcnt ad oc (mE cA ad σ) [.ref (ad 0 0), .int (zi k)] 0 (mE cA ad (ups σ 31 0 0 1)) := by
  intro sz
  refine g_ent (cc := cX8_plays) (maxL := 2) (ret := (some .int)) (by decide) rfl hI (Nat.le_of_ble_eq_true rfl) ?_
  intro pgm env s₀ m₀ bel mth cod hX hW hS hsz ls hl
  subst hsz
  have hC := hX.1
  have hx := hC.1
  have hb := hC.2.1
  have hts := hC.2.2.2.1
  have hl : lv_has ls 2 [(0, .ref (ad 0 0)), (1, .int (zi k))] := hl
  have hA := hv.A
  unfold IvA at hA
  refine lv_aload_n hx hb dX8_plays_0 rfl (lv_at hl 0 rfl) ?_
  refine lv_iload_n hx hb dX8_plays_1 rfl (lv_at hl 1 rfl) ?_
  refine k_callI (As := [.int (zi k)]) (rest := []) hX hl.1 (n_isNone_x hI σ k (by omega) h1 hxr) (cwV 1 hts gX8_plays_X8_isNone rfl rfl rfl (by decide +kernel) ⟨Nat.le_of_ble_eq_true rfl, Nat.le_of_ble_eq_true rfl⟩) (rc_M hC hW) hW hS ⟨Nat.zero_le _, Nat.zero_le _⟩ rfl rfl (Nat.le_of_ble_eq_true rfl) dX8_plays_2 (fun H locs hW hS _ _ => ?_)
  obtain ⟨σ1, hσ1⟩ : ∃ z, z = ups σ 31 0 0 1 := ⟨_, rfl⟩
  rw [← hσ1] at hW
  refine k_if_eq (tgt := 12) hC dX8_plays_5 (by decide) (by omega) (fun c1 => absurd c1 (by omega)) (fun c1 => ?_)
  refine k_iconst hC dX8_plays_8 ?_
  refine lv_goto (tgt := 18) hx hb dX8_plays_9 (by decide) ?_
  have hW : WP Dg mcnt ad (mE cA ad (ups σ 31 0 0 1)) _ := (sw hW (by first | (rw [hσ1]; done) | (rw [hσ1]; exact ups_ups _ _ _ _ _ _) | (rw [hσ1, ups_ups, ups_ups]; done)))
  exact k_iret hX rfl hW hS dX8_plays_18
set_option maxHeartbeats 1000000 in
set_option maxRecDepth 100000 in
theorem n_plays_n {l : Launch} {Dg : va_G} {cA : Nat → ClassId} {ad : Nat → Int → Nat} {oc : Nat → Nat} (hI : WI mcnt ad) {N M : Int} (σ : St) (k : Int) (hv : Inv N M σ) (hk : 0 ≤ k ∧ k < σ 27 0 0) (h6 : σ 6 k 0 = 0) : GI l yX8_plays wsX8_plays ({ frames := 3, cells := 0, slots := 0, locals := 64 } : Room) Dg cA mcnt ad oc (mE cA ad σ) [.ref (ad 0 0), .int (zi k)] 0 (mE cA ad (ups σ 31 0 0 2)) := by
  intro sz
  refine g_ent (cc := cX8_plays) (maxL := 2) (ret := (some .int)) (by decide) rfl hI (Nat.le_of_ble_eq_true rfl) ?_
  intro pgm env s₀ m₀ bel mth cod hX hW hS hsz ls hl
  subst hsz
  have hC := hX.1
  have hx := hC.1
  have hb := hC.2.1
  have hts := hC.2.2.2.1
  have hl : lv_has ls 2 [(0, .ref (ad 0 0)), (1, .int (zi k))] := hl
  have hA := hv.A
  unfold IvA at hA
  refine lv_aload_n hx hb dX8_plays_0 rfl (lv_at hl 0 rfl) ?_
  refine lv_iload_n hx hb dX8_plays_1 rfl (lv_at hl 1 rfl) ?_
  refine k_callI (As := [.int (zi k)]) (rest := []) hX hl.1 (n_isNone_n hI σ k (by omega) hk h6) (cwV 1 hts gX8_plays_X8_isNone rfl rfl rfl (by decide +kernel) ⟨Nat.le_of_ble_eq_true rfl, Nat.le_of_ble_eq_true rfl⟩) (rc_M hC hW) hW hS ⟨Nat.zero_le _, Nat.zero_le _⟩ rfl rfl (Nat.le_of_ble_eq_true rfl) dX8_plays_2 (fun H locs hW hS _ _ => ?_)
  obtain ⟨σ1, hσ1⟩ : ∃ z, z = ups σ 31 0 0 2 := ⟨_, rfl⟩
  rw [← hσ1] at hW
  refine k_if_eq (tgt := 12) hC dX8_plays_5 (by decide) (by omega) (fun c1 => absurd c1 (by omega)) (fun c1 => ?_)
  refine k_iconst hC dX8_plays_8 ?_
  refine lv_goto (tgt := 18) hx hb dX8_plays_9 (by decide) ?_
  have hW : WP Dg mcnt ad (mE cA ad (ups σ 31 0 0 2)) _ := (sw hW (by first | (rw [hσ1]; done) | (rw [hσ1]; exact ups_ups _ _ _ _ _ _) | (rw [hσ1, ups_ups, ups_ups]; done)))
  exact k_iret hX rfl hW hS dX8_plays_18
set_option maxHeartbeats 1000000 in
set_option maxRecDepth 100000 in
theorem n_count_x {l : Launch} {Dg : va_G} {cA : Nat → ClassId} {ad : Nat → Int → Nat} {oc : Nat → Nat} (hI : WI mcnt ad) {N M : Int} (σ : St) (k : Int) (hv : Inv N M σ) (h1 : ¬ (0 ≤ k ∧ k < σ 27 0 0)) (hxr : -2147483648 ≤ k ∧ k < 2147483648) : GI l yX8_count wsX8_count ({ frames := 3, cells := 0, slots := 0, locals := 64 } : Room) Dg cA mcnt ad oc (mE cA ad σ) [.ref (ad 0 0), .int (zi k)] 0 (mE cA ad (ups σ 31 0 0 1)) := by
  intro sz
  refine g_ent (cc := cX8_count) (maxL := 2) (ret := (some .int)) (by decide) rfl hI (Nat.le_of_ble_eq_true rfl) ?_
  intro pgm env s₀ m₀ bel mth cod hX hW hS hsz ls hl
  subst hsz
  have hC := hX.1
  have hx := hC.1
  have hb := hC.2.1
  have hts := hC.2.2.2.1
  have hl : lv_has ls 2 [(0, .ref (ad 0 0)), (1, .int (zi k))] := hl
  have hA := hv.A
  unfold IvA at hA
  refine lv_aload_n hx hb dX8_count_0 rfl (lv_at hl 0 rfl) ?_
  refine lv_iload_n hx hb dX8_count_1 rfl (lv_at hl 1 rfl) ?_
  refine k_callI (As := [.int (zi k)]) (rest := []) hX hl.1 (n_isNone_x hI σ k (by omega) h1 hxr) (cwV 1 hts gX8_count_X8_isNone rfl rfl rfl (by decide +kernel) ⟨Nat.le_of_ble_eq_true rfl, Nat.le_of_ble_eq_true rfl⟩) (rc_M hC hW) hW hS ⟨Nat.zero_le _, Nat.zero_le _⟩ rfl rfl (Nat.le_of_ble_eq_true rfl) dX8_count_2 (fun H locs hW hS _ _ => ?_)
  obtain ⟨σ1, hσ1⟩ : ∃ z, z = ups σ 31 0 0 1 := ⟨_, rfl⟩
  rw [← hσ1] at hW
  refine k_if_eq (tgt := 12) hC dX8_count_5 (by decide) (by omega) (fun c1 => absurd c1 (by omega)) (fun c1 => ?_)
  refine k_iconst hC dX8_count_8 ?_
  refine lv_goto (tgt := 18) hx hb dX8_count_9 (by decide) ?_
  have hW : WP Dg mcnt ad (mE cA ad (ups σ 31 0 0 1)) _ := (sw hW (by first | (rw [hσ1]; done) | (rw [hσ1]; exact ups_ups _ _ _ _ _ _) | (rw [hσ1, ups_ups, ups_ups]; done)))
  exact k_iret hX rfl hW hS dX8_count_18
set_option maxHeartbeats 1000000 in
set_option maxRecDepth 100000 in
theorem n_count_n {l : Launch} {Dg : va_G} {cA : Nat → ClassId} {ad : Nat → Int → Nat} {oc : Nat → Nat} (hI : WI mcnt ad) {N M : Int} (σ : St) (k : Int) (hv : Inv N M σ) (hk : 0 ≤ k ∧ k < σ 27 0 0) (h6 : σ 6 k 0 = 0) : GI l yX8_count wsX8_count ({ frames := 3, cells := 0, slots := 0, locals := 64 } : Room) Dg cA mcnt ad oc (mE cA ad σ) [.ref (ad 0 0), .int (zi k)] 0 (mE cA ad (ups σ 31 0 0 2)) := by
  intro sz
  refine g_ent (cc := cX8_count) (maxL := 2) (ret := (some .int)) (by decide) rfl hI (Nat.le_of_ble_eq_true rfl) ?_
  intro pgm env s₀ m₀ bel mth cod hX hW hS hsz ls hl
  subst hsz
  have hC := hX.1
  have hx := hC.1
  have hb := hC.2.1
  have hts := hC.2.2.2.1
  have hl : lv_has ls 2 [(0, .ref (ad 0 0)), (1, .int (zi k))] := hl
  have hA := hv.A
  unfold IvA at hA
  refine lv_aload_n hx hb dX8_count_0 rfl (lv_at hl 0 rfl) ?_
  refine lv_iload_n hx hb dX8_count_1 rfl (lv_at hl 1 rfl) ?_
  refine k_callI (As := [.int (zi k)]) (rest := []) hX hl.1 (n_isNone_n hI σ k (by omega) hk h6) (cwV 1 hts gX8_count_X8_isNone rfl rfl rfl (by decide +kernel) ⟨Nat.le_of_ble_eq_true rfl, Nat.le_of_ble_eq_true rfl⟩) (rc_M hC hW) hW hS ⟨Nat.zero_le _, Nat.zero_le _⟩ rfl rfl (Nat.le_of_ble_eq_true rfl) dX8_count_2 (fun H locs hW hS _ _ => ?_)
  obtain ⟨σ1, hσ1⟩ : ∃ z, z = ups σ 31 0 0 2 := ⟨_, rfl⟩
  rw [← hσ1] at hW
  refine k_if_eq (tgt := 12) hC dX8_count_5 (by decide) (by omega) (fun c1 => absurd c1 (by omega)) (fun c1 => ?_)
  refine k_iconst hC dX8_count_8 ?_
  refine lv_goto (tgt := 18) hx hb dX8_count_9 (by decide) ?_
  have hW : WP Dg mcnt ad (mE cA ad (ups σ 31 0 0 2)) _ := (sw hW (by first | (rw [hσ1]; done) | (rw [hσ1]; exact ups_ups _ _ _ _ _ _) | (rw [hσ1, ups_ups, ups_ups]; done)))
  exact k_iret hX rfl hW hS dX8_count_18
set_option maxHeartbeats 1000000 in
set_option maxRecDepth 100000 in
theorem n_waits_x {l : Launch} {Dg : va_G} {cA : Nat → ClassId} {ad : Nat → Int → Nat} {oc : Nat → Nat} (hI : WI mcnt ad) {N M : Int} (σ : St) (k : Int) (hv : Inv N M σ) (h1 : ¬ (0 ≤ k ∧ k < σ 27 0 0)) (hxr : -2147483648 ≤ k ∧ k < 2147483648) : GI l yX8_waits wsX8_waits ({ frames := 3, cells := 0, slots := 0, locals := 64 } : Room) Dg cA mcnt ad oc (mE cA ad σ) [.ref (ad 0 0), .int (zi k)] 0 (mE cA ad (ups σ 31 0 0 1)) := by
  intro sz
  refine g_ent (cc := cX8_waits) (maxL := 2) (ret := (some .int)) (by decide) rfl hI (Nat.le_of_ble_eq_true rfl) ?_
  intro pgm env s₀ m₀ bel mth cod hX hW hS hsz ls hl
  subst hsz
  have hC := hX.1
  have hx := hC.1
  have hb := hC.2.1
  have hts := hC.2.2.2.1
  have hl : lv_has ls 2 [(0, .ref (ad 0 0)), (1, .int (zi k))] := hl
  have hA := hv.A
  unfold IvA at hA
  refine lv_aload_n hx hb dX8_waits_0 rfl (lv_at hl 0 rfl) ?_
  refine lv_iload_n hx hb dX8_waits_1 rfl (lv_at hl 1 rfl) ?_
  refine k_callI (As := [.int (zi k)]) (rest := []) hX hl.1 (n_isNone_x hI σ k (by omega) h1 hxr) (cwV 1 hts gX8_waits_X8_isNone rfl rfl rfl (by decide +kernel) ⟨Nat.le_of_ble_eq_true rfl, Nat.le_of_ble_eq_true rfl⟩) (rc_M hC hW) hW hS ⟨Nat.zero_le _, Nat.zero_le _⟩ rfl rfl (Nat.le_of_ble_eq_true rfl) dX8_waits_2 (fun H locs hW hS _ _ => ?_)
  obtain ⟨σ1, hσ1⟩ : ∃ z, z = ups σ 31 0 0 1 := ⟨_, rfl⟩
  rw [← hσ1] at hW
  refine k_if_eq (tgt := 12) hC dX8_waits_5 (by decide) (by omega) (fun c1 => absurd c1 (by omega)) (fun c1 => ?_)
  refine k_iconst hC dX8_waits_8 ?_
  refine lv_goto (tgt := 32) hx hb dX8_waits_9 (by decide) ?_
  have hW : WP Dg mcnt ad (mE cA ad (ups σ 31 0 0 1)) _ := (sw hW (by first | (rw [hσ1]; done) | (rw [hσ1]; exact ups_ups _ _ _ _ _ _) | (rw [hσ1, ups_ups, ups_ups]; done)))
  exact k_iret hX rfl hW hS dX8_waits_32
set_option maxHeartbeats 1000000 in
set_option maxRecDepth 100000 in
theorem n_waits_n {l : Launch} {Dg : va_G} {cA : Nat → ClassId} {ad : Nat → Int → Nat} {oc : Nat → Nat} (hI : WI mcnt ad) {N M : Int} (σ : St) (k : Int) (hv : Inv N M σ) (hk : 0 ≤ k ∧ k < σ 27 0 0) (h6 : σ 6 k 0 = 0) : GI l yX8_waits wsX8_waits ({ frames := 3, cells := 0, slots := 0, locals := 64 } : Room) Dg cA mcnt ad oc (mE cA ad σ) [.ref (ad 0 0), .int (zi k)] 0 (mE cA ad (ups σ 31 0 0 2)) := by
  intro sz
  refine g_ent (cc := cX8_waits) (maxL := 2) (ret := (some .int)) (by decide) rfl hI (Nat.le_of_ble_eq_true rfl) ?_
  intro pgm env s₀ m₀ bel mth cod hX hW hS hsz ls hl
  subst hsz
  have hC := hX.1
  have hx := hC.1
  have hb := hC.2.1
  have hts := hC.2.2.2.1
  have hl : lv_has ls 2 [(0, .ref (ad 0 0)), (1, .int (zi k))] := hl
  have hA := hv.A
  unfold IvA at hA
  refine lv_aload_n hx hb dX8_waits_0 rfl (lv_at hl 0 rfl) ?_
  refine lv_iload_n hx hb dX8_waits_1 rfl (lv_at hl 1 rfl) ?_
  refine k_callI (As := [.int (zi k)]) (rest := []) hX hl.1 (n_isNone_n hI σ k (by omega) hk h6) (cwV 1 hts gX8_waits_X8_isNone rfl rfl rfl (by decide +kernel) ⟨Nat.le_of_ble_eq_true rfl, Nat.le_of_ble_eq_true rfl⟩) (rc_M hC hW) hW hS ⟨Nat.zero_le _, Nat.zero_le _⟩ rfl rfl (Nat.le_of_ble_eq_true rfl) dX8_waits_2 (fun H locs hW hS _ _ => ?_)
  obtain ⟨σ1, hσ1⟩ : ∃ z, z = ups σ 31 0 0 2 := ⟨_, rfl⟩
  rw [← hσ1] at hW
  refine k_if_eq (tgt := 12) hC dX8_waits_5 (by decide) (by omega) (fun c1 => absurd c1 (by omega)) (fun c1 => ?_)
  refine k_iconst hC dX8_waits_8 ?_
  refine lv_goto (tgt := 32) hx hb dX8_waits_9 (by decide) ?_
  have hW : WP Dg mcnt ad (mE cA ad (ups σ 31 0 0 2)) _ := (sw hW (by first | (rw [hσ1]; done) | (rw [hσ1]; exact ups_ups _ _ _ _ _ _) | (rw [hσ1, ups_ups, ups_ups]; done)))
  exact k_iret hX rfl hW hS dX8_waits_32
set_option maxHeartbeats 1000000 in
set_option maxRecDepth 100000 in
theorem n_next_x {l : Launch} {Dg : va_G} {cA : Nat → ClassId} {ad : Nat → Int → Nat} {oc : Nat → Nat} (hI : WI mcnt ad) {N M : Int} (σ : St) (k : Int) (hv : Inv N M σ) (h1 : ¬ (0 ≤ k ∧ k < σ 27 0 0)) (hxr : -2147483648 ≤ k ∧ k < 2147483648) : GI l yX8_next wsX8_next ({ frames := 3, cells := 0, slots := 0, locals := 64 } : Room) Dg cA mcnt ad oc (mE cA ad σ) [.ref (ad 0 0), .int (zi k)] 0 (mE cA ad (ups σ 31 0 0 1)) := by
  intro sz
  refine g_ent (cc := cX8_next) (maxL := 2) (ret := (some .int)) (by decide) rfl hI (Nat.le_of_ble_eq_true rfl) ?_
  intro pgm env s₀ m₀ bel mth cod hX hW hS hsz ls hl
  subst hsz
  have hC := hX.1
  have hx := hC.1
  have hb := hC.2.1
  have hts := hC.2.2.2.1
  have hl : lv_has ls 2 [(0, .ref (ad 0 0)), (1, .int (zi k))] := hl
  have hA := hv.A
  unfold IvA at hA
  refine lv_aload_n hx hb dX8_next_0 rfl (lv_at hl 0 rfl) ?_
  refine lv_iload_n hx hb dX8_next_1 rfl (lv_at hl 1 rfl) ?_
  refine k_callI (As := [.int (zi k)]) (rest := []) hX hl.1 (n_isNone_x hI σ k (by omega) h1 hxr) (cwV 1 hts gX8_next_X8_isNone rfl rfl rfl (by decide +kernel) ⟨Nat.le_of_ble_eq_true rfl, Nat.le_of_ble_eq_true rfl⟩) (rc_M hC hW) hW hS ⟨Nat.zero_le _, Nat.zero_le _⟩ rfl rfl (Nat.le_of_ble_eq_true rfl) dX8_next_2 (fun H locs hW hS _ _ => ?_)
  obtain ⟨σ1, hσ1⟩ : ∃ z, z = ups σ 31 0 0 1 := ⟨_, rfl⟩
  rw [← hσ1] at hW
  refine k_if_eq (tgt := 12) hC dX8_next_5 (by decide) (by omega) (fun c1 => absurd c1 (by omega)) (fun c1 => ?_)
  refine k_iconst hC dX8_next_8 ?_
  refine lv_goto (tgt := 32) hx hb dX8_next_9 (by decide) ?_
  have hW : WP Dg mcnt ad (mE cA ad (ups σ 31 0 0 1)) _ := (sw hW (by first | (rw [hσ1]; done) | (rw [hσ1]; exact ups_ups _ _ _ _ _ _) | (rw [hσ1, ups_ups, ups_ups]; done)))
  exact k_iret hX rfl hW hS dX8_next_32
set_option maxHeartbeats 1000000 in
set_option maxRecDepth 100000 in
theorem n_next_n {l : Launch} {Dg : va_G} {cA : Nat → ClassId} {ad : Nat → Int → Nat} {oc : Nat → Nat} (hI : WI mcnt ad) {N M : Int} (σ : St) (k : Int) (hv : Inv N M σ) (hk : 0 ≤ k ∧ k < σ 27 0 0) (h6 : σ 6 k 0 = 0) : GI l yX8_next wsX8_next ({ frames := 3, cells := 0, slots := 0, locals := 64 } : Room) Dg cA mcnt ad oc (mE cA ad σ) [.ref (ad 0 0), .int (zi k)] 0 (mE cA ad (ups σ 31 0 0 2)) := by
  intro sz
  refine g_ent (cc := cX8_next) (maxL := 2) (ret := (some .int)) (by decide) rfl hI (Nat.le_of_ble_eq_true rfl) ?_
  intro pgm env s₀ m₀ bel mth cod hX hW hS hsz ls hl
  subst hsz
  have hC := hX.1
  have hx := hC.1
  have hb := hC.2.1
  have hts := hC.2.2.2.1
  have hl : lv_has ls 2 [(0, .ref (ad 0 0)), (1, .int (zi k))] := hl
  have hA := hv.A
  unfold IvA at hA
  refine lv_aload_n hx hb dX8_next_0 rfl (lv_at hl 0 rfl) ?_
  refine lv_iload_n hx hb dX8_next_1 rfl (lv_at hl 1 rfl) ?_
  refine k_callI (As := [.int (zi k)]) (rest := []) hX hl.1 (n_isNone_n hI σ k (by omega) hk h6) (cwV 1 hts gX8_next_X8_isNone rfl rfl rfl (by decide +kernel) ⟨Nat.le_of_ble_eq_true rfl, Nat.le_of_ble_eq_true rfl⟩) (rc_M hC hW) hW hS ⟨Nat.zero_le _, Nat.zero_le _⟩ rfl rfl (Nat.le_of_ble_eq_true rfl) dX8_next_2 (fun H locs hW hS _ _ => ?_)
  obtain ⟨σ1, hσ1⟩ : ∃ z, z = ups σ 31 0 0 2 := ⟨_, rfl⟩
  rw [← hσ1] at hW
  refine k_if_eq (tgt := 12) hC dX8_next_5 (by decide) (by omega) (fun c1 => absurd c1 (by omega)) (fun c1 => ?_)
  refine k_iconst hC dX8_next_8 ?_
  refine lv_goto (tgt := 32) hx hb dX8_next_9 (by decide) ?_
  have hW : WP Dg mcnt ad (mE cA ad (ups σ 31 0 0 2)) _ := (sw hW (by first | (rw [hσ1]; done) | (rw [hσ1]; exact ups_ups _ _ _ _ _ _) | (rw [hσ1, ups_ups, ups_ups]; done)))
  exact k_iret hX rfl hW hS dX8_next_32
set_option maxHeartbeats 1000000 in
set_option maxRecDepth 100000 in
theorem n_playerAt {l : Launch} {Dg : va_G} {cA : Nat → ClassId} {ad : Nat → Int → Nat} {oc : Nat → Nat} (hI : WI mcnt ad) {N M : Int} {τ : St} (σ : St) (k j : Int) (hτ : τ = ups σ 31 0 0 0) (hv : Inv N M τ) (hk : 0 ≤ k ∧ k < τ 27 0 0) (hj : 0 ≤ j ∧ j < τ 17 k 0) : GI l yX8_playerAt wsX8_playerAt ({ frames := 2, cells := 0, slots := 0, locals := 43 } : Room) Dg cA mcnt ad oc (mE cA ad σ) [.ref (ad 0 0), .int (zi k), .int (zi j)] (τ 16 k j) (mE cA ad τ) := by
  intro sz
  refine g_ent (cc := cX8_playerAt) (maxL := 3) (ret := (some .int)) (by decide) rfl hI (Nat.le_of_ble_eq_true rfl) ?_
  intro pgm env s₀ m₀ bel mth cod hX hW hS hsz ls hl
  subst hsz
  have hC := hX.1
  have hx := hC.1
  have hb := hC.2.1
  have hts := hC.2.2.2.1
  have hl : lv_has ls 3 [(0, .ref (ad 0 0)), (1, .int (zi k)), (2, .int (zi j))] := hl
  have hin_X8 : ∀ w ∈ wsX80, w ∈ wsX8_playerAt := by decide +kernel
  have hl_65 := hts (.fieldLink RX8 65 "KioskReelModel" "playing" "[I") (by decide +kernel)
  have hl_68 := hts (.fieldLink RX8 68 "KioskReelModel" "playingMany" "[I") (by decide +kernel)
  have eσ : ∀ (t : Nat) (i j : Int), t ≠ 31 → σ t i j = τ t i j := fun t i j h => by rw [hτ, ups_t _ h]
  have e26 := eσ 26 0 0 (by decide)
  have e27 := eσ 27 0 0 (by decide)
  have e28 := eσ 28 0 0 (by decide)
  have hA := hv.A
  unfold IvA at hA
  have hk6 : 0 ≤ k ∧ k < 6 := by omega
  have hR := (hv.W k (by omega) (by omega)).1
  refine lv_aload_n hx hb dX8_playerAt_0 rfl (lv_at hl 0 rfl) ?_
  refine lv_aload_n hx hb dX8_playerAt_1 rfl (lv_at hl 0 rfl) ?_
  refine lv_iload_n hx hb dX8_playerAt_2 rfl (lv_at hl 1 rfl) ?_
  refine k_callI (As := [.int (zi k)]) (rest := [.ref (ad 0 0)]) hX hl.1 (n_isKiosk hI σ k (by omega) (by omega)) (cwV 1 hts gX8_playerAt_X8_isKiosk rfl rfl rfl (by decide +kernel) ⟨Nat.le_of_ble_eq_true rfl, Nat.le_of_ble_eq_true rfl⟩) (rc_M hC hW) hW hS ⟨Nat.zero_le _, Nat.zero_le _⟩ rfl rfl (Nat.le_of_ble_eq_true rfl) dX8_playerAt_3 (fun H locs hW hS _ _ => ?_)
  refine k_if_ne (tgt := 13) hC dX8_playerAt_6 (by decide) (by omega) (fun c1 => ?_) (fun c1 => absurd c1 (by omega))
  refine k_iconst hC dX8_playerAt_13 ?_
  refine k_iconst hC dX8_playerAt_14 ?_
  refine k_callI (As := [.int (zi 0), .int (zi 1)]) (rest := []) hX hl.1 (n_thr0 hI σ 1 (by omega)) (cwV 2 hts gX8_playerAt_X8_isThrown rfl rfl rfl (by decide +kernel) ⟨Nat.le_of_ble_eq_true rfl, Nat.le_of_ble_eq_true rfl⟩) (rc_M hC hW) hW hS ⟨Nat.zero_le _, Nat.zero_le _⟩ rfl rfl (Nat.le_of_ble_eq_true rfl) dX8_playerAt_15 (fun H locs hW hS _ _ => ?_)
  have hW : WP Dg mcnt ad (mE cA ad τ) _ := (sw hW hτ.symm)
  refine k_if_ne (tgt := 50) hC dX8_playerAt_18 (by decide) (by omega) (fun c2 => absurd c2 (by omega)) (fun c2 => ?_)
  refine lv_aload_n hx hb dX8_playerAt_21 rfl (lv_at hl 0 rfl) ?_
  refine lv_iload_n hx hb dX8_playerAt_22 rfl (lv_at hl 2 rfl) ?_
  refine k_iconst hC dX8_playerAt_23 ?_
  refine lv_aload_n hx hb dX8_playerAt_24 rfl (lv_at hl 0 rfl) ?_
  refine mg_playingMany hC hW hin_X8 hl_68 dX8_playerAt_25 ?_
  refine lv_iload_n hx hb dX8_playerAt_28 rfl (lv_at hl 1 rfl) ?_
  refine ma_playingMany hC hW (by omega) (v := τ 17 k 0) rfl dX8_playerAt_29 ?_
  refine k_iconst hC dX8_playerAt_30 ?_
  refine k_isub hC dX8_playerAt_31 ?_
  refine k_callSI (As := [.int (zi j), .int (zi 0), .int (zi ((τ 17 k 0) - 1))]) (rest := [.ref (ad 0 0)]) hX hl.1 (n_isIn hI τ j 0 ((τ 17 k 0) - 1) (by omega) (by omega) (by omega)) (cwS 3 hts gX8_playerAt_X8_isIn rfl rfl rfl (by decide +kernel) ⟨Nat.le_of_ble_eq_true rfl, Nat.le_of_ble_eq_true rfl⟩) hW hS ⟨Nat.zero_le _, Nat.zero_le _⟩ rfl rfl (Nat.le_of_ble_eq_true rfl) dX8_playerAt_32 (fun H locs hW hS _ _ => ?_)
  refine k_if_ne (tgt := 42) hC dX8_playerAt_35 (by decide) (by omega) (fun c3 => ?_) (fun c3 => absurd c3 (by omega))
  refine k_iconst hC dX8_playerAt_42 ?_
  refine k_iconst hC dX8_playerAt_43 ?_
  refine k_callI (As := [.int (zi 0), .int (zi 2)]) (rest := []) hX hl.1 (n_thr0 hI τ 2 (by omega)) (cwV 2 hts gX8_playerAt_X8_isThrown rfl rfl rfl (by decide +kernel) ⟨Nat.le_of_ble_eq_true rfl, Nat.le_of_ble_eq_true rfl⟩) (rc_M hC hW) hW hS ⟨Nat.zero_le _, Nat.zero_le _⟩ rfl rfl (Nat.le_of_ble_eq_true rfl) dX8_playerAt_44 (fun H locs hW hS _ _ => ?_)
  have hW : WP Dg mcnt ad (mE cA ad τ) _ := (sw hW (ups_id _ _ _ _ (by rw [hτ, ups_eq])))
  refine k_if_eq (tgt := 52) hC dX8_playerAt_47 (by decide) (by omega) (fun c4 => ?_) (fun c4 => absurd c4 (by omega))
  refine lv_aload_n hx hb dX8_playerAt_52 rfl (lv_at hl 0 rfl) ?_
  refine mg_playing hC hW hin_X8 hl_65 dX8_playerAt_53 ?_
  refine k_bipush hC dX8_playerAt_56 (by decide) ?_
  refine lv_iload_n hx hb dX8_playerAt_58 rfl (lv_at hl 1 rfl) ?_
  refine k_imul hC dX8_playerAt_59 ?_
  refine lv_iload_n hx hb dX8_playerAt_60 rfl (lv_at hl 2 rfl) ?_
  refine k_iadd hC dX8_playerAt_61 ?_
  refine ma_playing hC hW k j (by omega) (by omega) (by omega) (v := τ 16 k j) rfl dX8_playerAt_62 ?_
  exact k_iret hX rfl hW hS dX8_playerAt_63
set_option maxHeartbeats 1000000 in
set_option maxRecDepth 100000 in
theorem n_playerAt_x {l : Launch} {Dg : va_G} {cA : Nat → ClassId} {ad : Nat → Int → Nat} {oc : Nat → Nat} (hI : WI mcnt ad) {N M : Int} (σ : St) (k j : Int) (hv : Inv N M σ) (h1 : ¬ (0 ≤ k ∧ k < σ 27 0 0)) (hxr : -2147483648 ≤ k ∧ k < 2147483648) : GI l yX8_playerAt wsX8_playerAt ({ frames := 2, cells := 0, slots := 0, locals := 43 } : Room) Dg cA mcnt ad oc (mE cA ad σ) [.ref (ad 0 0), .int (zi k), .int (zi j)] 0 (mE cA ad (ups σ 31 0 0 1)) := by
  intro sz
  refine g_ent (cc := cX8_playerAt) (maxL := 3) (ret := (some .int)) (by decide) rfl hI (Nat.le_of_ble_eq_true rfl) ?_
  intro pgm env s₀ m₀ bel mth cod hX hW hS hsz ls hl
  subst hsz
  have hC := hX.1
  have hx := hC.1
  have hb := hC.2.1
  have hts := hC.2.2.2.1
  have hl : lv_has ls 3 [(0, .ref (ad 0 0)), (1, .int (zi k)), (2, .int (zi j))] := hl
  have hA := hv.A
  unfold IvA at hA
  refine lv_aload_n hx hb dX8_playerAt_0 rfl (lv_at hl 0 rfl) ?_
  refine lv_aload_n hx hb dX8_playerAt_1 rfl (lv_at hl 0 rfl) ?_
  refine lv_iload_n hx hb dX8_playerAt_2 rfl (lv_at hl 1 rfl) ?_
  refine k_callI (As := [.int (zi k)]) (rest := [.ref (ad 0 0)]) hX hl.1 (n_isKiosk hI σ k (by omega) (by omega)) (cwV 1 hts gX8_playerAt_X8_isKiosk rfl rfl rfl (by decide +kernel) ⟨Nat.le_of_ble_eq_true rfl, Nat.le_of_ble_eq_true rfl⟩) (rc_M hC hW) hW hS ⟨Nat.zero_le _, Nat.zero_le _⟩ rfl rfl (Nat.le_of_ble_eq_true rfl) dX8_playerAt_3 (fun H locs hW hS _ _ => ?_)
  refine k_if_ne (tgt := 13) hC dX8_playerAt_6 (by decide) (by omega) (fun c1 => absurd c1 (by omega)) (fun c1 => ?_)
  refine k_iconst hC dX8_playerAt_9 ?_
  refine lv_goto (tgt := 14) hx hb dX8_playerAt_10 (by decide) ?_
  refine k_iconst hC dX8_playerAt_14 ?_
  refine k_callI (As := [.int (zi 1), .int (zi 1)]) (rest := []) hX hl.1 (n_thr1 hI σ 1 (by omega)) (cwV 2 hts gX8_playerAt_X8_isThrown rfl rfl rfl (by decide +kernel) ⟨Nat.le_of_ble_eq_true rfl, Nat.le_of_ble_eq_true rfl⟩) (rc_M hC hW) hW hS ⟨Nat.zero_le _, Nat.zero_le _⟩ rfl rfl (Nat.le_of_ble_eq_true rfl) dX8_playerAt_15 (fun H locs hW hS _ _ => ?_)
  obtain ⟨σ1, hσ1⟩ : ∃ z, z = ups σ 31 0 0 1 := ⟨_, rfl⟩
  rw [← hσ1] at hW
  refine k_if_ne (tgt := 50) hC dX8_playerAt_18 (by decide) (by omega) (fun c2 => ?_) (fun c2 => absurd c2 (by omega))
  refine k_iconst hC dX8_playerAt_50 ?_
  have hW : WP Dg mcnt ad (mE cA ad (ups σ 31 0 0 1)) _ := (sw hW (by first | (rw [hσ1]; done) | (rw [hσ1]; exact ups_ups _ _ _ _ _ _) | (rw [hσ1, ups_ups, ups_ups]; done)))
  exact k_iret hX rfl hW hS dX8_playerAt_51
set_option maxHeartbeats 1000000 in
set_option maxRecDepth 100000 in
theorem n_playerAt_n {l : Launch} {Dg : va_G} {cA : Nat → ClassId} {ad : Nat → Int → Nat} {oc : Nat → Nat} (hI : WI mcnt ad) {N M : Int} (σ : St) (k j : Int) (hv : Inv N M σ) (hk : 0 ≤ k ∧ k < σ 27 0 0) (hj : ¬ (0 ≤ j ∧ j < σ 17 k 0)) (hxr : -2147483648 ≤ j ∧ j < 2147483648) : GI l yX8_playerAt wsX8_playerAt ({ frames := 2, cells := 0, slots := 0, locals := 43 } : Room) Dg cA mcnt ad oc (mE cA ad σ) [.ref (ad 0 0), .int (zi k), .int (zi j)] 0 (mE cA ad (ups σ 31 0 0 2)) := by
  intro sz
  refine g_ent (cc := cX8_playerAt) (maxL := 3) (ret := (some .int)) (by decide) rfl hI (Nat.le_of_ble_eq_true rfl) ?_
  intro pgm env s₀ m₀ bel mth cod hX hW hS hsz ls hl
  subst hsz
  have hC := hX.1
  have hx := hC.1
  have hb := hC.2.1
  have hts := hC.2.2.2.1
  have hl : lv_has ls 3 [(0, .ref (ad 0 0)), (1, .int (zi k)), (2, .int (zi j))] := hl
  have hin_X8 : ∀ w ∈ wsX80, w ∈ wsX8_playerAt := by decide +kernel
  have hl_68 := hts (.fieldLink RX8 68 "KioskReelModel" "playingMany" "[I") (by decide +kernel)
  have hA := hv.A
  unfold IvA at hA
  have hk6 : 0 ≤ k ∧ k < 6 := by omega
  have hR := (hv.W k (by omega) (by omega)).1
  refine lv_aload_n hx hb dX8_playerAt_0 rfl (lv_at hl 0 rfl) ?_
  refine lv_aload_n hx hb dX8_playerAt_1 rfl (lv_at hl 0 rfl) ?_
  refine lv_iload_n hx hb dX8_playerAt_2 rfl (lv_at hl 1 rfl) ?_
  refine k_callI (As := [.int (zi k)]) (rest := [.ref (ad 0 0)]) hX hl.1 (n_isKiosk hI σ k (by omega) (by omega)) (cwV 1 hts gX8_playerAt_X8_isKiosk rfl rfl rfl (by decide +kernel) ⟨Nat.le_of_ble_eq_true rfl, Nat.le_of_ble_eq_true rfl⟩) (rc_M hC hW) hW hS ⟨Nat.zero_le _, Nat.zero_le _⟩ rfl rfl (Nat.le_of_ble_eq_true rfl) dX8_playerAt_3 (fun H locs hW hS _ _ => ?_)
  refine k_if_ne (tgt := 13) hC dX8_playerAt_6 (by decide) (by omega) (fun c1 => ?_) (fun c1 => absurd c1 (by omega))
  refine k_iconst hC dX8_playerAt_13 ?_
  refine k_iconst hC dX8_playerAt_14 ?_
  refine k_callI (As := [.int (zi 0), .int (zi 1)]) (rest := []) hX hl.1 (n_thr0 hI σ 1 (by omega)) (cwV 2 hts gX8_playerAt_X8_isThrown rfl rfl rfl (by decide +kernel) ⟨Nat.le_of_ble_eq_true rfl, Nat.le_of_ble_eq_true rfl⟩) (rc_M hC hW) hW hS ⟨Nat.zero_le _, Nat.zero_le _⟩ rfl rfl (Nat.le_of_ble_eq_true rfl) dX8_playerAt_15 (fun H locs hW hS _ _ => ?_)
  obtain ⟨σ1, hσ1⟩ : ∃ z, z = ups σ 31 0 0 0 := ⟨_, rfl⟩
  rw [← hσ1] at hW
  refine k_if_ne (tgt := 50) hC dX8_playerAt_18 (by decide) (by omega) (fun c2 => absurd c2 (by omega)) (fun c2 => ?_)
  refine lv_aload_n hx hb dX8_playerAt_21 rfl (lv_at hl 0 rfl) ?_
  refine lv_iload_n hx hb dX8_playerAt_22 rfl (lv_at hl 2 rfl) ?_
  refine k_iconst hC dX8_playerAt_23 ?_
  refine lv_aload_n hx hb dX8_playerAt_24 rfl (lv_at hl 0 rfl) ?_
  refine mg_playingMany hC hW hin_X8 hl_68 dX8_playerAt_25 ?_
  refine lv_iload_n hx hb dX8_playerAt_28 rfl (lv_at hl 1 rfl) ?_
  refine ma_playingMany hC hW (by omega) (v := σ 17 k 0) (by rw [hσ1, ups_t _ (by decide)]) dX8_playerAt_29 ?_
  refine k_iconst hC dX8_playerAt_30 ?_
  refine k_isub hC dX8_playerAt_31 ?_
  refine k_callSI (As := [.int (zi j), .int (zi 0), .int (zi ((σ 17 k 0) - 1))]) (rest := [.ref (ad 0 0)]) hX hl.1 (n_isIn hI σ1 j 0 ((σ 17 k 0) - 1) (by omega) (by omega) (by omega)) (cwS 3 hts gX8_playerAt_X8_isIn rfl rfl rfl (by decide +kernel) ⟨Nat.le_of_ble_eq_true rfl, Nat.le_of_ble_eq_true rfl⟩) hW hS ⟨Nat.zero_le _, Nat.zero_le _⟩ rfl rfl (Nat.le_of_ble_eq_true rfl) dX8_playerAt_32 (fun H locs hW hS _ _ => ?_)
  refine k_if_ne (tgt := 42) hC dX8_playerAt_35 (by decide) (by omega) (fun c3 => absurd c3 (by omega)) (fun c3 => ?_)
  refine k_iconst hC dX8_playerAt_38 ?_
  refine lv_goto (tgt := 43) hx hb dX8_playerAt_39 (by decide) ?_
  refine k_iconst hC dX8_playerAt_43 ?_
  refine k_callI (As := [.int (zi 1), .int (zi 2)]) (rest := []) hX hl.1 (n_thr1 hI σ1 2 (by omega)) (cwV 2 hts gX8_playerAt_X8_isThrown rfl rfl rfl (by decide +kernel) ⟨Nat.le_of_ble_eq_true rfl, Nat.le_of_ble_eq_true rfl⟩) (rc_M hC hW) hW hS ⟨Nat.zero_le _, Nat.zero_le _⟩ rfl rfl (Nat.le_of_ble_eq_true rfl) dX8_playerAt_44 (fun H locs hW hS _ _ => ?_)
  obtain ⟨σ2, hσ2⟩ : ∃ z, z = ups σ1 31 0 0 2 := ⟨_, rfl⟩
  rw [← hσ2] at hW
  refine k_if_eq (tgt := 52) hC dX8_playerAt_47 (by decide) (by omega) (fun c4 => absurd c4 (by omega)) (fun c4 => ?_)
  refine k_iconst hC dX8_playerAt_50 ?_
  have hW : WP Dg mcnt ad (mE cA ad (ups σ 31 0 0 2)) _ := (sw hW (by first | (rw [hσ2, hσ1]; done) | (rw [hσ2, hσ1]; exact ups_ups _ _ _ _ _ _) | (rw [hσ2, hσ1, ups_ups, ups_ups]; done)))
  exact k_iret hX rfl hW hS dX8_playerAt_51
set_option maxHeartbeats 1000000 in
set_option maxRecDepth 100000 in
theorem n_slide {l : Launch} {Dg : va_G} {cA : Nat → ClassId} {ad : Nat → Int → Nat} {oc : Nat → Nat} (hI : WI mcnt ad) {N M : Int} {τ : St} (σ : St) (k : Int) (hτ : τ = ups σ 31 0 0 0) (hv : Inv N M τ) (hk : 0 ≤ k ∧ k < τ 27 0 0) (h1 : τ 15 k 0 ≠ -1) : GI l yX8_slide wsX8_slide ({ frames := 2, cells := 0, slots := 0, locals := 43 } : Room) Dg cA mcnt ad oc (mE cA ad σ) [.ref (ad 0 0), .int (zi k)] (τ 15 k 0) (mE cA ad τ) := by
  intro sz
  refine g_ent (cc := cX8_slide) (maxL := 2) (ret := (some .int)) (by decide) rfl hI (Nat.le_of_ble_eq_true rfl) ?_
  intro pgm env s₀ m₀ bel mth cod hX hW hS hsz ls hl
  subst hsz
  have hC := hX.1
  have hx := hC.1
  have hb := hC.2.1
  have hts := hC.2.2.2.1
  have hl : lv_has ls 2 [(0, .ref (ad 0 0)), (1, .int (zi k))] := hl
  have hin_X8 : ∀ w ∈ wsX80, w ∈ wsX8_slide := by decide +kernel
  have hl_62 := hts (.fieldLink RX8 62 "KioskReelModel" "slide" "[I") (by decide +kernel)
  have eσ : ∀ (t : Nat) (i j : Int), t ≠ 31 → σ t i j = τ t i j := fun t i j h => by rw [hτ, ups_t _ h]
  have e26 := eσ 26 0 0 (by decide)
  have e27 := eσ 27 0 0 (by decide)
  have e28 := eσ 28 0 0 (by decide)
  have hA := hv.A
  unfold IvA at hA
  have hk6 : 0 ≤ k ∧ k < 6 := by omega
  obtain ⟨hK1, hK2, hK3, hK4, hK5, hK6, hK7, hK8⟩ := hv.K k hk6.1 hk6.2
  refine lv_aload_n hx hb dX8_slide_0 rfl (lv_at hl 0 rfl) ?_
  refine lv_aload_n hx hb dX8_slide_1 rfl (lv_at hl 0 rfl) ?_
  refine lv_iload_n hx hb dX8_slide_2 rfl (lv_at hl 1 rfl) ?_
  refine k_callI (As := [.int (zi k)]) (rest := [.ref (ad 0 0)]) hX hl.1 (n_isKiosk hI σ k (by omega) (by omega)) (cwV 1 hts gX8_slide_X8_isKiosk rfl rfl rfl (by decide +kernel) ⟨Nat.le_of_ble_eq_true rfl, Nat.le_of_ble_eq_true rfl⟩) (rc_M hC hW) hW hS ⟨Nat.zero_le _, Nat.zero_le _⟩ rfl rfl (Nat.le_of_ble_eq_true rfl) dX8_slide_3 (fun H locs hW hS _ _ => ?_)
  refine k_if_ne (tgt := 13) hC dX8_slide_6 (by decide) (by omega) (fun c1 => ?_) (fun c1 => absurd c1 (by omega))
  refine k_iconst hC dX8_slide_13 ?_
  refine k_iconst hC dX8_slide_14 ?_
  refine k_callI (As := [.int (zi 0), .int (zi 1)]) (rest := []) hX hl.1 (n_thr0 hI σ 1 (by omega)) (cwV 2 hts gX8_slide_X8_isThrown rfl rfl rfl (by decide +kernel) ⟨Nat.le_of_ble_eq_true rfl, Nat.le_of_ble_eq_true rfl⟩) (rc_M hC hW) hW hS ⟨Nat.zero_le _, Nat.zero_le _⟩ rfl rfl (Nat.le_of_ble_eq_true rfl) dX8_slide_15 (fun H locs hW hS _ _ => ?_)
  have hW : WP Dg mcnt ad (mE cA ad τ) _ := (sw hW hτ.symm)
  refine k_if_ne (tgt := 43) hC dX8_slide_18 (by decide) (by omega) (fun c2 => absurd c2 (by omega)) (fun c2 => ?_)
  refine lv_aload_n hx hb dX8_slide_21 rfl (lv_at hl 0 rfl) ?_
  refine lv_aload_n hx hb dX8_slide_22 rfl (lv_at hl 0 rfl) ?_
  refine mg_slide hC hW hin_X8 hl_62 dX8_slide_23 ?_
  refine lv_iload_n hx hb dX8_slide_26 rfl (lv_at hl 1 rfl) ?_
  refine ma_slide hC hW (by omega) (v := τ 15 k 0) rfl dX8_slide_27 ?_
  refine k_if_ge (tgt := 35) hC dX8_slide_28 (by decide) (by omega) (fun c3 => ?_) (fun c3 => absurd c3 (by omega))
  refine k_iconst hC dX8_slide_35 ?_
  refine k_iconst hC dX8_slide_36 ?_
  refine k_callI (As := [.int (zi 0), .int (zi 2)]) (rest := []) hX hl.1 (n_thr0 hI τ 2 (by omega)) (cwV 2 hts gX8_slide_X8_isThrown rfl rfl rfl (by decide +kernel) ⟨Nat.le_of_ble_eq_true rfl, Nat.le_of_ble_eq_true rfl⟩) (rc_M hC hW) hW hS ⟨Nat.zero_le _, Nat.zero_le _⟩ rfl rfl (Nat.le_of_ble_eq_true rfl) dX8_slide_37 (fun H locs hW hS _ _ => ?_)
  have hW : WP Dg mcnt ad (mE cA ad τ) _ := (sw hW (ups_id _ _ _ _ (by rw [hτ, ups_eq])))
  refine k_if_eq (tgt := 47) hC dX8_slide_40 (by decide) (by omega) (fun c4 => ?_) (fun c4 => absurd c4 (by omega))
  refine lv_aload_n hx hb dX8_slide_47 rfl (lv_at hl 0 rfl) ?_
  refine mg_slide hC hW hin_X8 hl_62 dX8_slide_48 ?_
  refine lv_iload_n hx hb dX8_slide_51 rfl (lv_at hl 1 rfl) ?_
  refine ma_slide hC hW (by omega) (v := τ 15 k 0) rfl dX8_slide_52 ?_
  exact k_iret hX rfl hW hS dX8_slide_53
set_option maxHeartbeats 1000000 in
set_option maxRecDepth 100000 in
theorem n_slide_x {l : Launch} {Dg : va_G} {cA : Nat → ClassId} {ad : Nat → Int → Nat} {oc : Nat → Nat} (hI : WI mcnt ad) {N M : Int} (σ : St) (k : Int) (hv : Inv N M σ) (h1 : ¬ (0 ≤ k ∧ k < σ 27 0 0)) (hxr : -2147483648 ≤ k ∧ k < 2147483648) : GI l yX8_slide wsX8_slide ({ frames := 2, cells := 0, slots := 0, locals := 43 } : Room) Dg cA mcnt ad oc (mE cA ad σ) [.ref (ad 0 0), .int (zi k)] 0 (mE cA ad (ups σ 31 0 0 1)) := by
  intro sz
  refine g_ent (cc := cX8_slide) (maxL := 2) (ret := (some .int)) (by decide) rfl hI (Nat.le_of_ble_eq_true rfl) ?_
  intro pgm env s₀ m₀ bel mth cod hX hW hS hsz ls hl
  subst hsz
  have hC := hX.1
  have hx := hC.1
  have hb := hC.2.1
  have hts := hC.2.2.2.1
  have hl : lv_has ls 2 [(0, .ref (ad 0 0)), (1, .int (zi k))] := hl
  have hA := hv.A
  unfold IvA at hA
  refine lv_aload_n hx hb dX8_slide_0 rfl (lv_at hl 0 rfl) ?_
  refine lv_aload_n hx hb dX8_slide_1 rfl (lv_at hl 0 rfl) ?_
  refine lv_iload_n hx hb dX8_slide_2 rfl (lv_at hl 1 rfl) ?_
  refine k_callI (As := [.int (zi k)]) (rest := [.ref (ad 0 0)]) hX hl.1 (n_isKiosk hI σ k (by omega) (by omega)) (cwV 1 hts gX8_slide_X8_isKiosk rfl rfl rfl (by decide +kernel) ⟨Nat.le_of_ble_eq_true rfl, Nat.le_of_ble_eq_true rfl⟩) (rc_M hC hW) hW hS ⟨Nat.zero_le _, Nat.zero_le _⟩ rfl rfl (Nat.le_of_ble_eq_true rfl) dX8_slide_3 (fun H locs hW hS _ _ => ?_)
  refine k_if_ne (tgt := 13) hC dX8_slide_6 (by decide) (by omega) (fun c1 => absurd c1 (by omega)) (fun c1 => ?_)
  refine k_iconst hC dX8_slide_9 ?_
  refine lv_goto (tgt := 14) hx hb dX8_slide_10 (by decide) ?_
  refine k_iconst hC dX8_slide_14 ?_
  refine k_callI (As := [.int (zi 1), .int (zi 1)]) (rest := []) hX hl.1 (n_thr1 hI σ 1 (by omega)) (cwV 2 hts gX8_slide_X8_isThrown rfl rfl rfl (by decide +kernel) ⟨Nat.le_of_ble_eq_true rfl, Nat.le_of_ble_eq_true rfl⟩) (rc_M hC hW) hW hS ⟨Nat.zero_le _, Nat.zero_le _⟩ rfl rfl (Nat.le_of_ble_eq_true rfl) dX8_slide_15 (fun H locs hW hS _ _ => ?_)
  obtain ⟨σ1, hσ1⟩ : ∃ z, z = ups σ 31 0 0 1 := ⟨_, rfl⟩
  rw [← hσ1] at hW
  refine k_if_ne (tgt := 43) hC dX8_slide_18 (by decide) (by omega) (fun c2 => ?_) (fun c2 => absurd c2 (by omega))
  refine k_iconst hC dX8_slide_43 ?_
  refine lv_goto (tgt := 53) hx hb dX8_slide_44 (by decide) ?_
  have hW : WP Dg mcnt ad (mE cA ad (ups σ 31 0 0 1)) _ := (sw hW (by first | (rw [hσ1]; done) | (rw [hσ1]; exact ups_ups _ _ _ _ _ _) | (rw [hσ1, ups_ups, ups_ups]; done)))
  exact k_iret hX rfl hW hS dX8_slide_53
set_option maxHeartbeats 1000000 in
set_option maxRecDepth 100000 in
theorem n_slide_n {l : Launch} {Dg : va_G} {cA : Nat → ClassId} {ad : Nat → Int → Nat} {oc : Nat → Nat} (hI : WI mcnt ad) {N M : Int} (σ : St) (k : Int) (hv : Inv N M σ) (hk : 0 ≤ k ∧ k < σ 27 0 0) (h1 : σ 15 k 0 = -1) : GI l yX8_slide wsX8_slide ({ frames := 2, cells := 0, slots := 0, locals := 43 } : Room) Dg cA mcnt ad oc (mE cA ad σ) [.ref (ad 0 0), .int (zi k)] 0 (mE cA ad (ups σ 31 0 0 2)) := by
  intro sz
  refine g_ent (cc := cX8_slide) (maxL := 2) (ret := (some .int)) (by decide) rfl hI (Nat.le_of_ble_eq_true rfl) ?_
  intro pgm env s₀ m₀ bel mth cod hX hW hS hsz ls hl
  subst hsz
  have hC := hX.1
  have hx := hC.1
  have hb := hC.2.1
  have hts := hC.2.2.2.1
  have hl : lv_has ls 2 [(0, .ref (ad 0 0)), (1, .int (zi k))] := hl
  have hin_X8 : ∀ w ∈ wsX80, w ∈ wsX8_slide := by decide +kernel
  have hl_62 := hts (.fieldLink RX8 62 "KioskReelModel" "slide" "[I") (by decide +kernel)
  have hA := hv.A
  unfold IvA at hA
  have hk6 : 0 ≤ k ∧ k < 6 := by omega
  obtain ⟨hK1, hK2, hK3, hK4, hK5, hK6, hK7, hK8⟩ := hv.K k hk6.1 hk6.2
  refine lv_aload_n hx hb dX8_slide_0 rfl (lv_at hl 0 rfl) ?_
  refine lv_aload_n hx hb dX8_slide_1 rfl (lv_at hl 0 rfl) ?_
  refine lv_iload_n hx hb dX8_slide_2 rfl (lv_at hl 1 rfl) ?_
  refine k_callI (As := [.int (zi k)]) (rest := [.ref (ad 0 0)]) hX hl.1 (n_isKiosk hI σ k (by omega) (by omega)) (cwV 1 hts gX8_slide_X8_isKiosk rfl rfl rfl (by decide +kernel) ⟨Nat.le_of_ble_eq_true rfl, Nat.le_of_ble_eq_true rfl⟩) (rc_M hC hW) hW hS ⟨Nat.zero_le _, Nat.zero_le _⟩ rfl rfl (Nat.le_of_ble_eq_true rfl) dX8_slide_3 (fun H locs hW hS _ _ => ?_)
  refine k_if_ne (tgt := 13) hC dX8_slide_6 (by decide) (by omega) (fun c1 => ?_) (fun c1 => absurd c1 (by omega))
  refine k_iconst hC dX8_slide_13 ?_
  refine k_iconst hC dX8_slide_14 ?_
  refine k_callI (As := [.int (zi 0), .int (zi 1)]) (rest := []) hX hl.1 (n_thr0 hI σ 1 (by omega)) (cwV 2 hts gX8_slide_X8_isThrown rfl rfl rfl (by decide +kernel) ⟨Nat.le_of_ble_eq_true rfl, Nat.le_of_ble_eq_true rfl⟩) (rc_M hC hW) hW hS ⟨Nat.zero_le _, Nat.zero_le _⟩ rfl rfl (Nat.le_of_ble_eq_true rfl) dX8_slide_15 (fun H locs hW hS _ _ => ?_)
  obtain ⟨σ1, hσ1⟩ : ∃ z, z = ups σ 31 0 0 0 := ⟨_, rfl⟩
  rw [← hσ1] at hW
  refine k_if_ne (tgt := 43) hC dX8_slide_18 (by decide) (by omega) (fun c2 => absurd c2 (by omega)) (fun c2 => ?_)
  refine lv_aload_n hx hb dX8_slide_21 rfl (lv_at hl 0 rfl) ?_
  refine lv_aload_n hx hb dX8_slide_22 rfl (lv_at hl 0 rfl) ?_
  refine mg_slide hC hW hin_X8 hl_62 dX8_slide_23 ?_
  refine lv_iload_n hx hb dX8_slide_26 rfl (lv_at hl 1 rfl) ?_
  refine ma_slide hC hW (by omega) (v := σ 15 k 0) (by rw [hσ1, ups_t _ (by decide)]) dX8_slide_27 ?_
  refine k_if_ge (tgt := 35) hC dX8_slide_28 (by decide) (by omega) (fun c3 => absurd c3 (by omega)) (fun c3 => ?_)
  refine k_iconst hC dX8_slide_31 ?_
  refine lv_goto (tgt := 36) hx hb dX8_slide_32 (by decide) ?_
  refine k_iconst hC dX8_slide_36 ?_
  refine k_callI (As := [.int (zi 1), .int (zi 2)]) (rest := []) hX hl.1 (n_thr1 hI σ1 2 (by omega)) (cwV 2 hts gX8_slide_X8_isThrown rfl rfl rfl (by decide +kernel) ⟨Nat.le_of_ble_eq_true rfl, Nat.le_of_ble_eq_true rfl⟩) (rc_M hC hW) hW hS ⟨Nat.zero_le _, Nat.zero_le _⟩ rfl rfl (Nat.le_of_ble_eq_true rfl) dX8_slide_37 (fun H locs hW hS _ _ => ?_)
  obtain ⟨σ2, hσ2⟩ : ∃ z, z = ups σ1 31 0 0 2 := ⟨_, rfl⟩
  rw [← hσ2] at hW
  refine k_if_eq (tgt := 47) hC dX8_slide_40 (by decide) (by omega) (fun c4 => absurd c4 (by omega)) (fun c4 => ?_)
  refine k_iconst hC dX8_slide_43 ?_
  refine lv_goto (tgt := 53) hx hb dX8_slide_44 (by decide) ?_
  have hW : WP Dg mcnt ad (mE cA ad (ups σ 31 0 0 2)) _ := (sw hW (by first | (rw [hσ2, hσ1]; done) | (rw [hσ2, hσ1]; exact ups_ups _ _ _ _ _ _) | (rw [hσ2, hσ1, ups_ups, ups_ups]; done)))
  exact k_iret hX rfl hW hS dX8_slide_53
set_option maxHeartbeats 1000000 in
set_option maxRecDepth 100000 in
theorem n_holder {l : Launch} {Dg : va_G} {cA : Nat → ClassId} {ad : Nat → Int → Nat} {oc : Nat → Nat} (hI : WI mcnt ad) {N M : Int} {τ : St} (σ : St) (d : Int) (hτ : τ = ups σ 31 0 0 0) (hv : Inv N M τ) (hd : 0 ≤ d ∧ d < 6) (h1 : τ 18 d 0 ≠ -1) : GI l yX8_holder wsX8_holder ({ frames := 2, cells := 0, slots := 0, locals := 42 } : Room) Dg cA mcnt ad oc (mE cA ad σ) [.ref (ad 0 0), .int (zi d)] (τ 18 d 0) (mE cA ad τ) := by
  intro sz
  refine g_ent (cc := cX8_holder) (maxL := 2) (ret := (some .int)) (by decide) rfl hI (Nat.le_of_ble_eq_true rfl) ?_
  intro pgm env s₀ m₀ bel mth cod hX hW hS hsz ls hl
  subst hsz
  have hC := hX.1
  have hx := hC.1
  have hb := hC.2.1
  have hts := hC.2.2.2.1
  have hl : lv_has ls 2 [(0, .ref (ad 0 0)), (1, .int (zi d))] := hl
  have hin_X8 : ∀ w ∈ wsX80, w ∈ wsX8_holder := by decide +kernel
  have hl_71 := hts (.fieldLink RX8 71 "KioskReelModel" "holder" "[I") (by decide +kernel)
  have eσ : ∀ (t : Nat) (i j : Int), t ≠ 31 → σ t i j = τ t i j := fun t i j h => by rw [hτ, ups_t _ h]
  have e26 := eσ 26 0 0 (by decide)
  have e27 := eσ 27 0 0 (by decide)
  have e28 := eσ 28 0 0 (by decide)
  have hA := hv.A
  unfold IvA at hA
  have hO := (hv.O.1 d (by omega) (by omega)).1
  have hR := (hv.W (6 + d) (by omega) (by omega)).1
  refine lv_aload_n hx hb dX8_holder_0 rfl (lv_at hl 0 rfl) ?_
  refine lv_iload_n hx hb dX8_holder_1 rfl (lv_at hl 1 rfl) ?_
  refine k_callSI (As := [.int (zi d)]) (rest := [.ref (ad 0 0)]) hX hl.1 (n_isDevice hI σ d (by omega)) (cwS 1 hts gX8_holder_X8_isDevice rfl rfl rfl (by decide +kernel) ⟨Nat.le_of_ble_eq_true rfl, Nat.le_of_ble_eq_true rfl⟩) hW hS ⟨Nat.zero_le _, Nat.zero_le _⟩ rfl rfl (Nat.le_of_ble_eq_true rfl) dX8_holder_2 (fun H locs hW hS _ _ => ?_)
  refine k_if_ne (tgt := 12) hC dX8_holder_5 (by decide) (by omega) (fun c1 => ?_) (fun c1 => absurd c1 (by omega))
  refine k_iconst hC dX8_holder_12 ?_
  refine k_iconst hC dX8_holder_13 ?_
  refine k_callI (As := [.int (zi 0), .int (zi 1)]) (rest := []) hX hl.1 (n_thr0 hI σ 1 (by omega)) (cwV 2 hts gX8_holder_X8_isThrown rfl rfl rfl (by decide +kernel) ⟨Nat.le_of_ble_eq_true rfl, Nat.le_of_ble_eq_true rfl⟩) (rc_M hC hW) hW hS ⟨Nat.zero_le _, Nat.zero_le _⟩ rfl rfl (Nat.le_of_ble_eq_true rfl) dX8_holder_14 (fun H locs hW hS _ _ => ?_)
  have hW : WP Dg mcnt ad (mE cA ad τ) _ := (sw hW hτ.symm)
  refine k_if_ne (tgt := 42) hC dX8_holder_17 (by decide) (by omega) (fun c2 => absurd c2 (by omega)) (fun c2 => ?_)
  refine lv_aload_n hx hb dX8_holder_20 rfl (lv_at hl 0 rfl) ?_
  refine lv_aload_n hx hb dX8_holder_21 rfl (lv_at hl 0 rfl) ?_
  refine mg_holder hC hW hin_X8 hl_71 dX8_holder_22 ?_
  refine lv_iload_n hx hb dX8_holder_25 rfl (lv_at hl 1 rfl) ?_
  refine ma_holder hC hW (by omega) (v := τ 18 d 0) rfl dX8_holder_26 ?_
  refine k_if_ge (tgt := 34) hC dX8_holder_27 (by decide) (by omega) (fun c3 => ?_) (fun c3 => absurd c3 (by omega))
  refine k_iconst hC dX8_holder_34 ?_
  refine k_iconst hC dX8_holder_35 ?_
  refine k_callI (As := [.int (zi 0), .int (zi 2)]) (rest := []) hX hl.1 (n_thr0 hI τ 2 (by omega)) (cwV 2 hts gX8_holder_X8_isThrown rfl rfl rfl (by decide +kernel) ⟨Nat.le_of_ble_eq_true rfl, Nat.le_of_ble_eq_true rfl⟩) (rc_M hC hW) hW hS ⟨Nat.zero_le _, Nat.zero_le _⟩ rfl rfl (Nat.le_of_ble_eq_true rfl) dX8_holder_36 (fun H locs hW hS _ _ => ?_)
  have hW : WP Dg mcnt ad (mE cA ad τ) _ := (sw hW (ups_id _ _ _ _ (by rw [hτ, ups_eq])))
  refine k_if_eq (tgt := 46) hC dX8_holder_39 (by decide) (by omega) (fun c4 => ?_) (fun c4 => absurd c4 (by omega))
  refine lv_aload_n hx hb dX8_holder_46 rfl (lv_at hl 0 rfl) ?_
  refine mg_holder hC hW hin_X8 hl_71 dX8_holder_47 ?_
  refine lv_iload_n hx hb dX8_holder_50 rfl (lv_at hl 1 rfl) ?_
  refine ma_holder hC hW (by omega) (v := τ 18 d 0) rfl dX8_holder_51 ?_
  exact k_iret hX rfl hW hS dX8_holder_52
set_option maxHeartbeats 1000000 in
set_option maxRecDepth 100000 in
theorem n_holder_x {l : Launch} {Dg : va_G} {cA : Nat → ClassId} {ad : Nat → Int → Nat} {oc : Nat → Nat} (hI : WI mcnt ad) (σ : St) (d : Int) (h1 : ¬ (0 ≤ d ∧ d < 6)) (hxr : -2147483648 ≤ d ∧ d < 2147483648) : GI l yX8_holder wsX8_holder ({ frames := 2, cells := 0, slots := 0, locals := 42 } : Room) Dg cA mcnt ad oc (mE cA ad σ) [.ref (ad 0 0), .int (zi d)] 0 (mE cA ad (ups σ 31 0 0 1)) := by
  intro sz
  refine g_ent (cc := cX8_holder) (maxL := 2) (ret := (some .int)) (by decide) rfl hI (Nat.le_of_ble_eq_true rfl) ?_
  intro pgm env s₀ m₀ bel mth cod hX hW hS hsz ls hl
  subst hsz
  have hC := hX.1
  have hx := hC.1
  have hb := hC.2.1
  have hts := hC.2.2.2.1
  have hl : lv_has ls 2 [(0, .ref (ad 0 0)), (1, .int (zi d))] := hl
  refine lv_aload_n hx hb dX8_holder_0 rfl (lv_at hl 0 rfl) ?_
  refine lv_iload_n hx hb dX8_holder_1 rfl (lv_at hl 1 rfl) ?_
  refine k_callSI (As := [.int (zi d)]) (rest := [.ref (ad 0 0)]) hX hl.1 (n_isDevice hI σ d (by omega)) (cwS 1 hts gX8_holder_X8_isDevice rfl rfl rfl (by decide +kernel) ⟨Nat.le_of_ble_eq_true rfl, Nat.le_of_ble_eq_true rfl⟩) hW hS ⟨Nat.zero_le _, Nat.zero_le _⟩ rfl rfl (Nat.le_of_ble_eq_true rfl) dX8_holder_2 (fun H locs hW hS _ _ => ?_)
  refine k_if_ne (tgt := 12) hC dX8_holder_5 (by decide) (by omega) (fun c1 => absurd c1 (by omega)) (fun c1 => ?_)
  refine k_iconst hC dX8_holder_8 ?_
  refine lv_goto (tgt := 13) hx hb dX8_holder_9 (by decide) ?_
  refine k_iconst hC dX8_holder_13 ?_
  refine k_callI (As := [.int (zi 1), .int (zi 1)]) (rest := []) hX hl.1 (n_thr1 hI σ 1 (by omega)) (cwV 2 hts gX8_holder_X8_isThrown rfl rfl rfl (by decide +kernel) ⟨Nat.le_of_ble_eq_true rfl, Nat.le_of_ble_eq_true rfl⟩) (rc_M hC hW) hW hS ⟨Nat.zero_le _, Nat.zero_le _⟩ rfl rfl (Nat.le_of_ble_eq_true rfl) dX8_holder_14 (fun H locs hW hS _ _ => ?_)
  obtain ⟨σ1, hσ1⟩ : ∃ z, z = ups σ 31 0 0 1 := ⟨_, rfl⟩
  rw [← hσ1] at hW
  refine k_if_ne (tgt := 42) hC dX8_holder_17 (by decide) (by omega) (fun c2 => ?_) (fun c2 => absurd c2 (by omega))
  refine k_iconst hC dX8_holder_42 ?_
  refine lv_goto (tgt := 52) hx hb dX8_holder_43 (by decide) ?_
  have hW : WP Dg mcnt ad (mE cA ad (ups σ 31 0 0 1)) _ := (sw hW (by first | (rw [hσ1]; done) | (rw [hσ1]; exact ups_ups _ _ _ _ _ _) | (rw [hσ1, ups_ups, ups_ups]; done)))
  exact k_iret hX rfl hW hS dX8_holder_52
set_option maxHeartbeats 1000000 in
set_option maxRecDepth 100000 in
theorem n_holder_n {l : Launch} {Dg : va_G} {cA : Nat → ClassId} {ad : Nat → Int → Nat} {oc : Nat → Nat} (hI : WI mcnt ad) {N M : Int} (σ : St) (d : Int) (hv : Inv N M σ) (hd : 0 ≤ d ∧ d < 6) (h1 : σ 18 d 0 = -1) : GI l yX8_holder wsX8_holder ({ frames := 2, cells := 0, slots := 0, locals := 42 } : Room) Dg cA mcnt ad oc (mE cA ad σ) [.ref (ad 0 0), .int (zi d)] 0 (mE cA ad (ups σ 31 0 0 2)) := by
  intro sz
  refine g_ent (cc := cX8_holder) (maxL := 2) (ret := (some .int)) (by decide) rfl hI (Nat.le_of_ble_eq_true rfl) ?_
  intro pgm env s₀ m₀ bel mth cod hX hW hS hsz ls hl
  subst hsz
  have hC := hX.1
  have hx := hC.1
  have hb := hC.2.1
  have hts := hC.2.2.2.1
  have hl : lv_has ls 2 [(0, .ref (ad 0 0)), (1, .int (zi d))] := hl
  have hin_X8 : ∀ w ∈ wsX80, w ∈ wsX8_holder := by decide +kernel
  have hl_71 := hts (.fieldLink RX8 71 "KioskReelModel" "holder" "[I") (by decide +kernel)
  have hO := (hv.O.1 d (by omega) (by omega)).1
  have hR := (hv.W (6 + d) (by omega) (by omega)).1
  refine lv_aload_n hx hb dX8_holder_0 rfl (lv_at hl 0 rfl) ?_
  refine lv_iload_n hx hb dX8_holder_1 rfl (lv_at hl 1 rfl) ?_
  refine k_callSI (As := [.int (zi d)]) (rest := [.ref (ad 0 0)]) hX hl.1 (n_isDevice hI σ d (by omega)) (cwS 1 hts gX8_holder_X8_isDevice rfl rfl rfl (by decide +kernel) ⟨Nat.le_of_ble_eq_true rfl, Nat.le_of_ble_eq_true rfl⟩) hW hS ⟨Nat.zero_le _, Nat.zero_le _⟩ rfl rfl (Nat.le_of_ble_eq_true rfl) dX8_holder_2 (fun H locs hW hS _ _ => ?_)
  refine k_if_ne (tgt := 12) hC dX8_holder_5 (by decide) (by omega) (fun c1 => ?_) (fun c1 => absurd c1 (by omega))
  refine k_iconst hC dX8_holder_12 ?_
  refine k_iconst hC dX8_holder_13 ?_
  refine k_callI (As := [.int (zi 0), .int (zi 1)]) (rest := []) hX hl.1 (n_thr0 hI σ 1 (by omega)) (cwV 2 hts gX8_holder_X8_isThrown rfl rfl rfl (by decide +kernel) ⟨Nat.le_of_ble_eq_true rfl, Nat.le_of_ble_eq_true rfl⟩) (rc_M hC hW) hW hS ⟨Nat.zero_le _, Nat.zero_le _⟩ rfl rfl (Nat.le_of_ble_eq_true rfl) dX8_holder_14 (fun H locs hW hS _ _ => ?_)
  obtain ⟨σ1, hσ1⟩ : ∃ z, z = ups σ 31 0 0 0 := ⟨_, rfl⟩
  rw [← hσ1] at hW
  refine k_if_ne (tgt := 42) hC dX8_holder_17 (by decide) (by omega) (fun c2 => absurd c2 (by omega)) (fun c2 => ?_)
  refine lv_aload_n hx hb dX8_holder_20 rfl (lv_at hl 0 rfl) ?_
  refine lv_aload_n hx hb dX8_holder_21 rfl (lv_at hl 0 rfl) ?_
  refine mg_holder hC hW hin_X8 hl_71 dX8_holder_22 ?_
  refine lv_iload_n hx hb dX8_holder_25 rfl (lv_at hl 1 rfl) ?_
  refine ma_holder hC hW (by omega) (v := σ 18 d 0) (by rw [hσ1, ups_t _ (by decide)]) dX8_holder_26 ?_
  refine k_if_ge (tgt := 34) hC dX8_holder_27 (by decide) (by omega) (fun c3 => absurd c3 (by omega)) (fun c3 => ?_)
  refine k_iconst hC dX8_holder_30 ?_
  refine lv_goto (tgt := 35) hx hb dX8_holder_31 (by decide) ?_
  refine k_iconst hC dX8_holder_35 ?_
  refine k_callI (As := [.int (zi 1), .int (zi 2)]) (rest := []) hX hl.1 (n_thr1 hI σ1 2 (by omega)) (cwV 2 hts gX8_holder_X8_isThrown rfl rfl rfl (by decide +kernel) ⟨Nat.le_of_ble_eq_true rfl, Nat.le_of_ble_eq_true rfl⟩) (rc_M hC hW) hW hS ⟨Nat.zero_le _, Nat.zero_le _⟩ rfl rfl (Nat.le_of_ble_eq_true rfl) dX8_holder_36 (fun H locs hW hS _ _ => ?_)
  obtain ⟨σ2, hσ2⟩ : ∃ z, z = ups σ1 31 0 0 2 := ⟨_, rfl⟩
  rw [← hσ2] at hW
  refine k_if_eq (tgt := 46) hC dX8_holder_39 (by decide) (by omega) (fun c4 => absurd c4 (by omega)) (fun c4 => ?_)
  refine k_iconst hC dX8_holder_42 ?_
  refine lv_goto (tgt := 52) hx hb dX8_holder_43 (by decide) ?_
  have hW : WP Dg mcnt ad (mE cA ad (ups σ 31 0 0 2)) _ := (sw hW (by first | (rw [hσ2, hσ1]; done) | (rw [hσ2, hσ1]; exact ups_ups _ _ _ _ _ _) | (rw [hσ2, hσ1, ups_ups, ups_ups]; done)))
  exact k_iret hX rfl hW hS dX8_holder_52
set_option maxHeartbeats 1000000 in
set_option maxRecDepth 100000 in
theorem n_queued {l : Launch} {Dg : va_G} {cA : Nat → ClassId} {ad : Nat → Int → Nat} {oc : Nat → Nat} (hI : WI mcnt ad) {N M : Int} {τ : St} (σ : St) (d j : Int) (hτ : τ = ups σ 31 0 0 0) (hv : Inv N M τ) (hd : 0 ≤ d ∧ d < 6) (hj : 0 ≤ j ∧ j < τ 17 (6 + d) 0) : GI l yX8_queued wsX8_queued ({ frames := 2, cells := 0, slots := 0, locals := 42 } : Room) Dg cA mcnt ad oc (mE cA ad σ) [.ref (ad 0 0), .int (zi d), .int (zi j)] (τ 16 (6 + d) j) (mE cA ad τ) := by
  intro sz
  refine g_ent (cc := cX8_queued) (maxL := 3) (ret := (some .int)) (by decide) rfl hI (Nat.le_of_ble_eq_true rfl) ?_
  intro pgm env s₀ m₀ bel mth cod hX hW hS hsz ls hl
  subst hsz
  have hC := hX.1
  have hx := hC.1
  have hb := hC.2.1
  have hts := hC.2.2.2.1
  have hl : lv_has ls 3 [(0, .ref (ad 0 0)), (1, .int (zi d)), (2, .int (zi j))] := hl
  have hin_X8 : ∀ w ∈ wsX80, w ∈ wsX8_queued := by decide +kernel
  have hl_74 := hts (.fieldLink RX8 74 "KioskReelModel" "queue" "[I") (by decide +kernel)
  have hl_77 := hts (.fieldLink RX8 77 "KioskReelModel" "queueMany" "[I") (by decide +kernel)
  have eσ : ∀ (t : Nat) (i j : Int), t ≠ 31 → σ t i j = τ t i j := fun t i j h => by rw [hτ, ups_t _ h]
  have e26 := eσ 26 0 0 (by decide)
  have e27 := eσ 27 0 0 (by decide)
  have e28 := eσ 28 0 0 (by decide)
  have hA := hv.A
  unfold IvA at hA
  have hO := (hv.O.1 d (by omega) (by omega)).1
  have hR := (hv.W (6 + d) (by omega) (by omega)).1
  refine lv_aload_n hx hb dX8_queued_0 rfl (lv_at hl 0 rfl) ?_
  refine lv_iload_n hx hb dX8_queued_1 rfl (lv_at hl 1 rfl) ?_
  refine k_callSI (As := [.int (zi d)]) (rest := [.ref (ad 0 0)]) hX hl.1 (n_isDevice hI σ d (by omega)) (cwS 1 hts gX8_queued_X8_isDevice rfl rfl rfl (by decide +kernel) ⟨Nat.le_of_ble_eq_true rfl, Nat.le_of_ble_eq_true rfl⟩) hW hS ⟨Nat.zero_le _, Nat.zero_le _⟩ rfl rfl (Nat.le_of_ble_eq_true rfl) dX8_queued_2 (fun H locs hW hS _ _ => ?_)
  refine k_if_ne (tgt := 12) hC dX8_queued_5 (by decide) (by omega) (fun c1 => ?_) (fun c1 => absurd c1 (by omega))
  refine k_iconst hC dX8_queued_12 ?_
  refine k_iconst hC dX8_queued_13 ?_
  refine k_callI (As := [.int (zi 0), .int (zi 1)]) (rest := []) hX hl.1 (n_thr0 hI σ 1 (by omega)) (cwV 2 hts gX8_queued_X8_isThrown rfl rfl rfl (by decide +kernel) ⟨Nat.le_of_ble_eq_true rfl, Nat.le_of_ble_eq_true rfl⟩) (rc_M hC hW) hW hS ⟨Nat.zero_le _, Nat.zero_le _⟩ rfl rfl (Nat.le_of_ble_eq_true rfl) dX8_queued_14 (fun H locs hW hS _ _ => ?_)
  have hW : WP Dg mcnt ad (mE cA ad τ) _ := (sw hW hτ.symm)
  refine k_if_ne (tgt := 49) hC dX8_queued_17 (by decide) (by omega) (fun c2 => absurd c2 (by omega)) (fun c2 => ?_)
  refine lv_aload_n hx hb dX8_queued_20 rfl (lv_at hl 0 rfl) ?_
  refine lv_iload_n hx hb dX8_queued_21 rfl (lv_at hl 2 rfl) ?_
  refine k_iconst hC dX8_queued_22 ?_
  refine lv_aload_n hx hb dX8_queued_23 rfl (lv_at hl 0 rfl) ?_
  refine mg_queueMany hC hW hin_X8 hl_77 dX8_queued_24 ?_
  refine lv_iload_n hx hb dX8_queued_27 rfl (lv_at hl 1 rfl) ?_
  refine ma_queueMany hC hW (by omega) (v := τ 17 (6 + d) 0) rfl dX8_queued_28 ?_
  refine k_iconst hC dX8_queued_29 ?_
  refine k_isub hC dX8_queued_30 ?_
  refine k_callSI (As := [.int (zi j), .int (zi 0), .int (zi ((τ 17 (6 + d) 0) - 1))]) (rest := [.ref (ad 0 0)]) hX hl.1 (n_isIn hI τ j 0 ((τ 17 (6 + d) 0) - 1) (by omega) (by omega) (by omega)) (cwS 3 hts gX8_queued_X8_isIn rfl rfl rfl (by decide +kernel) ⟨Nat.le_of_ble_eq_true rfl, Nat.le_of_ble_eq_true rfl⟩) hW hS ⟨Nat.zero_le _, Nat.zero_le _⟩ rfl rfl (Nat.le_of_ble_eq_true rfl) dX8_queued_31 (fun H locs hW hS _ _ => ?_)
  refine k_if_ne (tgt := 41) hC dX8_queued_34 (by decide) (by omega) (fun c3 => ?_) (fun c3 => absurd c3 (by omega))
  refine k_iconst hC dX8_queued_41 ?_
  refine k_iconst hC dX8_queued_42 ?_
  refine k_callI (As := [.int (zi 0), .int (zi 2)]) (rest := []) hX hl.1 (n_thr0 hI τ 2 (by omega)) (cwV 2 hts gX8_queued_X8_isThrown rfl rfl rfl (by decide +kernel) ⟨Nat.le_of_ble_eq_true rfl, Nat.le_of_ble_eq_true rfl⟩) (rc_M hC hW) hW hS ⟨Nat.zero_le _, Nat.zero_le _⟩ rfl rfl (Nat.le_of_ble_eq_true rfl) dX8_queued_43 (fun H locs hW hS _ _ => ?_)
  have hW : WP Dg mcnt ad (mE cA ad τ) _ := (sw hW (ups_id _ _ _ _ (by rw [hτ, ups_eq])))
  refine k_if_eq (tgt := 53) hC dX8_queued_46 (by decide) (by omega) (fun c4 => ?_) (fun c4 => absurd c4 (by omega))
  refine lv_aload_n hx hb dX8_queued_53 rfl (lv_at hl 0 rfl) ?_
  refine mg_queue hC hW hin_X8 hl_74 dX8_queued_54 ?_
  refine k_bipush hC dX8_queued_57 (by decide) ?_
  refine lv_iload_n hx hb dX8_queued_59 rfl (lv_at hl 1 rfl) ?_
  refine k_imul hC dX8_queued_60 ?_
  refine lv_iload_n hx hb dX8_queued_61 rfl (lv_at hl 2 rfl) ?_
  refine k_iadd hC dX8_queued_62 ?_
  refine ma_queue hC hW d j (by omega) (by omega) (by omega) (v := τ 16 (6 + d) j) rfl dX8_queued_63 ?_
  exact k_iret hX rfl hW hS dX8_queued_64
set_option maxHeartbeats 1000000 in
set_option maxRecDepth 100000 in
theorem n_queued_x {l : Launch} {Dg : va_G} {cA : Nat → ClassId} {ad : Nat → Int → Nat} {oc : Nat → Nat} (hI : WI mcnt ad) (σ : St) (d j : Int) (h1 : ¬ (0 ≤ d ∧ d < 6)) (hxr : -2147483648 ≤ d ∧ d < 2147483648) : GI l yX8_queued wsX8_queued ({ frames := 2, cells := 0, slots := 0, locals := 42 } : Room) Dg cA mcnt ad oc (mE cA ad σ) [.ref (ad 0 0), .int (zi d), .int (zi j)] 0 (mE cA ad (ups σ 31 0 0 1)) := by
  intro sz
  refine g_ent (cc := cX8_queued) (maxL := 3) (ret := (some .int)) (by decide) rfl hI (Nat.le_of_ble_eq_true rfl) ?_
  intro pgm env s₀ m₀ bel mth cod hX hW hS hsz ls hl
  subst hsz
  have hC := hX.1
  have hx := hC.1
  have hb := hC.2.1
  have hts := hC.2.2.2.1
  have hl : lv_has ls 3 [(0, .ref (ad 0 0)), (1, .int (zi d)), (2, .int (zi j))] := hl
  refine lv_aload_n hx hb dX8_queued_0 rfl (lv_at hl 0 rfl) ?_
  refine lv_iload_n hx hb dX8_queued_1 rfl (lv_at hl 1 rfl) ?_
  refine k_callSI (As := [.int (zi d)]) (rest := [.ref (ad 0 0)]) hX hl.1 (n_isDevice hI σ d (by omega)) (cwS 1 hts gX8_queued_X8_isDevice rfl rfl rfl (by decide +kernel) ⟨Nat.le_of_ble_eq_true rfl, Nat.le_of_ble_eq_true rfl⟩) hW hS ⟨Nat.zero_le _, Nat.zero_le _⟩ rfl rfl (Nat.le_of_ble_eq_true rfl) dX8_queued_2 (fun H locs hW hS _ _ => ?_)
  refine k_if_ne (tgt := 12) hC dX8_queued_5 (by decide) (by omega) (fun c1 => absurd c1 (by omega)) (fun c1 => ?_)
  refine k_iconst hC dX8_queued_8 ?_
  refine lv_goto (tgt := 13) hx hb dX8_queued_9 (by decide) ?_
  refine k_iconst hC dX8_queued_13 ?_
  refine k_callI (As := [.int (zi 1), .int (zi 1)]) (rest := []) hX hl.1 (n_thr1 hI σ 1 (by omega)) (cwV 2 hts gX8_queued_X8_isThrown rfl rfl rfl (by decide +kernel) ⟨Nat.le_of_ble_eq_true rfl, Nat.le_of_ble_eq_true rfl⟩) (rc_M hC hW) hW hS ⟨Nat.zero_le _, Nat.zero_le _⟩ rfl rfl (Nat.le_of_ble_eq_true rfl) dX8_queued_14 (fun H locs hW hS _ _ => ?_)
  obtain ⟨σ1, hσ1⟩ : ∃ z, z = ups σ 31 0 0 1 := ⟨_, rfl⟩
  rw [← hσ1] at hW
  refine k_if_ne (tgt := 49) hC dX8_queued_17 (by decide) (by omega) (fun c2 => ?_) (fun c2 => absurd c2 (by omega))
  refine k_iconst hC dX8_queued_49 ?_
  refine lv_goto (tgt := 64) hx hb dX8_queued_50 (by decide) ?_
  have hW : WP Dg mcnt ad (mE cA ad (ups σ 31 0 0 1)) _ := (sw hW (by first | (rw [hσ1]; done) | (rw [hσ1]; exact ups_ups _ _ _ _ _ _) | (rw [hσ1, ups_ups, ups_ups]; done)))
  exact k_iret hX rfl hW hS dX8_queued_64
set_option maxHeartbeats 1000000 in
set_option maxRecDepth 100000 in
theorem n_queued_n {l : Launch} {Dg : va_G} {cA : Nat → ClassId} {ad : Nat → Int → Nat} {oc : Nat → Nat} (hI : WI mcnt ad) {N M : Int} (σ : St) (d j : Int) (hv : Inv N M σ) (hd : 0 ≤ d ∧ d < 6) (hj : ¬ (0 ≤ j ∧ j < σ 17 (6 + d) 0)) (hxr : -2147483648 ≤ j ∧ j < 2147483648) : GI l yX8_queued wsX8_queued ({ frames := 2, cells := 0, slots := 0, locals := 42 } : Room) Dg cA mcnt ad oc (mE cA ad σ) [.ref (ad 0 0), .int (zi d), .int (zi j)] 0 (mE cA ad (ups σ 31 0 0 2)) := by
  intro sz
  refine g_ent (cc := cX8_queued) (maxL := 3) (ret := (some .int)) (by decide) rfl hI (Nat.le_of_ble_eq_true rfl) ?_
  intro pgm env s₀ m₀ bel mth cod hX hW hS hsz ls hl
  subst hsz
  have hC := hX.1
  have hx := hC.1
  have hb := hC.2.1
  have hts := hC.2.2.2.1
  have hl : lv_has ls 3 [(0, .ref (ad 0 0)), (1, .int (zi d)), (2, .int (zi j))] := hl
  have hin_X8 : ∀ w ∈ wsX80, w ∈ wsX8_queued := by decide +kernel
  have hl_77 := hts (.fieldLink RX8 77 "KioskReelModel" "queueMany" "[I") (by decide +kernel)
  have hO := (hv.O.1 d (by omega) (by omega)).1
  have hR := (hv.W (6 + d) (by omega) (by omega)).1
  refine lv_aload_n hx hb dX8_queued_0 rfl (lv_at hl 0 rfl) ?_
  refine lv_iload_n hx hb dX8_queued_1 rfl (lv_at hl 1 rfl) ?_
  refine k_callSI (As := [.int (zi d)]) (rest := [.ref (ad 0 0)]) hX hl.1 (n_isDevice hI σ d (by omega)) (cwS 1 hts gX8_queued_X8_isDevice rfl rfl rfl (by decide +kernel) ⟨Nat.le_of_ble_eq_true rfl, Nat.le_of_ble_eq_true rfl⟩) hW hS ⟨Nat.zero_le _, Nat.zero_le _⟩ rfl rfl (Nat.le_of_ble_eq_true rfl) dX8_queued_2 (fun H locs hW hS _ _ => ?_)
  refine k_if_ne (tgt := 12) hC dX8_queued_5 (by decide) (by omega) (fun c1 => ?_) (fun c1 => absurd c1 (by omega))
  refine k_iconst hC dX8_queued_12 ?_
  refine k_iconst hC dX8_queued_13 ?_
  refine k_callI (As := [.int (zi 0), .int (zi 1)]) (rest := []) hX hl.1 (n_thr0 hI σ 1 (by omega)) (cwV 2 hts gX8_queued_X8_isThrown rfl rfl rfl (by decide +kernel) ⟨Nat.le_of_ble_eq_true rfl, Nat.le_of_ble_eq_true rfl⟩) (rc_M hC hW) hW hS ⟨Nat.zero_le _, Nat.zero_le _⟩ rfl rfl (Nat.le_of_ble_eq_true rfl) dX8_queued_14 (fun H locs hW hS _ _ => ?_)
  obtain ⟨σ1, hσ1⟩ : ∃ z, z = ups σ 31 0 0 0 := ⟨_, rfl⟩
  rw [← hσ1] at hW
  refine k_if_ne (tgt := 49) hC dX8_queued_17 (by decide) (by omega) (fun c2 => absurd c2 (by omega)) (fun c2 => ?_)
  refine lv_aload_n hx hb dX8_queued_20 rfl (lv_at hl 0 rfl) ?_
  refine lv_iload_n hx hb dX8_queued_21 rfl (lv_at hl 2 rfl) ?_
  refine k_iconst hC dX8_queued_22 ?_
  refine lv_aload_n hx hb dX8_queued_23 rfl (lv_at hl 0 rfl) ?_
  refine mg_queueMany hC hW hin_X8 hl_77 dX8_queued_24 ?_
  refine lv_iload_n hx hb dX8_queued_27 rfl (lv_at hl 1 rfl) ?_
  refine ma_queueMany hC hW (by omega) (v := σ 17 (6 + d) 0) (by rw [hσ1, ups_t _ (by decide)]) dX8_queued_28 ?_
  refine k_iconst hC dX8_queued_29 ?_
  refine k_isub hC dX8_queued_30 ?_
  refine k_callSI (As := [.int (zi j), .int (zi 0), .int (zi ((σ 17 (6 + d) 0) - 1))]) (rest := [.ref (ad 0 0)]) hX hl.1 (n_isIn hI σ1 j 0 ((σ 17 (6 + d) 0) - 1) (by omega) (by omega) (by omega)) (cwS 3 hts gX8_queued_X8_isIn rfl rfl rfl (by decide +kernel) ⟨Nat.le_of_ble_eq_true rfl, Nat.le_of_ble_eq_true rfl⟩) hW hS ⟨Nat.zero_le _, Nat.zero_le _⟩ rfl rfl (Nat.le_of_ble_eq_true rfl) dX8_queued_31 (fun H locs hW hS _ _ => ?_)
  refine k_if_ne (tgt := 41) hC dX8_queued_34 (by decide) (by omega) (fun c3 => absurd c3 (by omega)) (fun c3 => ?_)
  refine k_iconst hC dX8_queued_37 ?_
  refine lv_goto (tgt := 42) hx hb dX8_queued_38 (by decide) ?_
  refine k_iconst hC dX8_queued_42 ?_
  refine k_callI (As := [.int (zi 1), .int (zi 2)]) (rest := []) hX hl.1 (n_thr1 hI σ1 2 (by omega)) (cwV 2 hts gX8_queued_X8_isThrown rfl rfl rfl (by decide +kernel) ⟨Nat.le_of_ble_eq_true rfl, Nat.le_of_ble_eq_true rfl⟩) (rc_M hC hW) hW hS ⟨Nat.zero_le _, Nat.zero_le _⟩ rfl rfl (Nat.le_of_ble_eq_true rfl) dX8_queued_43 (fun H locs hW hS _ _ => ?_)
  obtain ⟨σ2, hσ2⟩ : ∃ z, z = ups σ1 31 0 0 2 := ⟨_, rfl⟩
  rw [← hσ2] at hW
  refine k_if_eq (tgt := 53) hC dX8_queued_46 (by decide) (by omega) (fun c4 => absurd c4 (by omega)) (fun c4 => ?_)
  refine k_iconst hC dX8_queued_49 ?_
  refine lv_goto (tgt := 64) hx hb dX8_queued_50 (by decide) ?_
  have hW : WP Dg mcnt ad (mE cA ad (ups σ 31 0 0 2)) _ := (sw hW (by first | (rw [hσ2, hσ1]; done) | (rw [hσ2, hσ1]; exact ups_ups _ _ _ _ _ _) | (rw [hσ2, hσ1, ups_ups, ups_ups]; done)))
  exact k_iret hX rfl hW hS dX8_queued_64
set_option maxHeartbeats 1000000 in
set_option maxRecDepth 100000 in
theorem n_go {l : Launch} {Dg : va_G} {cA : Nat → ClassId} {ad : Nat → Int → Nat} {oc : Nat → Nat} (hI : WI mcnt ad) {N M : Int} {τ : St} (σ : St) (v k : Int) (hτ : τ = ups σ 31 0 0 0) (hv : Inv N M τ) (hvi : 0 ≤ v ∧ v < τ 28 0 0) (hk : k = -1 ∨ (0 ≤ k ∧ k < τ 27 0 0)) : GI l yX8_go wsX8_go ({ frames := 2, cells := 0, slots := 0, locals := 43 } : Room) Dg cA mcnt ad oc (mE cA ad σ) [.ref (ad 0 0), .int (zi v), .int (zi k)] (τ 22 v 0) (mE cA ad (ups τ 22 v 0 k)) := by
  intro sz
  refine g_ent (cc := cX8_go) (maxL := 4) (ret := (some .int)) (by decide) rfl hI (Nat.le_of_ble_eq_true rfl) ?_
  intro pgm env s₀ m₀ bel mth cod hX hW hS hsz ls hl
  subst hsz
  have hC := hX.1
  have hx := hC.1
  have hb := hC.2.1
  have hts := hC.2.2.2.1
  have hl : lv_has ls 4 [(0, .ref (ad 0 0)), (1, .int (zi v)), (2, .int (zi k))] := hl
  have hin_X8 : ∀ w ∈ wsX80, w ∈ wsX8_go := by decide +kernel
  have hl_83 := hts (.fieldLink RX8 83 "KioskReelModel" "place" "[I") (by decide +kernel)
  have eσ : ∀ (t : Nat) (i j : Int), t ≠ 31 → σ t i j = τ t i j := fun t i j h => by rw [hτ, ups_t _ h]
  have e26 := eσ 26 0 0 (by decide)
  have e27 := eσ 27 0 0 (by decide)
  have e28 := eσ 28 0 0 (by decide)
  have hA := hv.A
  unfold IvA at hA
  obtain ⟨v1, v2⟩ := hv.V v (by omega) (by omega)
  refine lv_aload_n hx hb dX8_go_0 rfl (lv_at hl 0 rfl) ?_
  refine lv_iload_n hx hb dX8_go_1 rfl (lv_at hl 1 rfl) ?_
  refine k_callI (As := [.int (zi v)]) (rest := []) hX hl.1 (n_isNoVisitor0 hI σ v (by omega) (by omega)) (cwV 1 hts gX8_go_X8_isNoVisitor rfl rfl rfl (by decide +kernel) ⟨Nat.le_of_ble_eq_true rfl, Nat.le_of_ble_eq_true rfl⟩) (rc_M hC hW) hW hS ⟨Nat.zero_le _, Nat.zero_le _⟩ rfl rfl (Nat.le_of_ble_eq_true rfl) dX8_go_2 (fun H locs hW hS _ _ => ?_)
  have hW : WP Dg mcnt ad (mE cA ad τ) _ := (sw hW hτ.symm)
  refine k_if_ne (tgt := 34) hC dX8_go_5 (by decide) (by omega) (fun c1 => absurd c1 (by omega)) (fun c1 => ?_)
  refine lv_aload_n hx hb dX8_go_8 rfl (lv_at hl 0 rfl) ?_
  refine lv_iload_n hx hb dX8_go_9 rfl (lv_at hl 2 rfl) ?_
  refine k_iconst hC dX8_go_10 ?_
  refine k_icmp_eq (tgt := 26) hC dX8_go_11 (by decide) (by omega) (fun c2 => ?_) (fun c2 => ?_)
  · refine k_iconst hC dX8_go_26 ?_
    refine k_iconst hC dX8_go_27 ?_
    refine k_callI (As := [.int (zi 0), .int (zi 1)]) (rest := []) hX hl.1 (n_thr0 hI τ 1 (by omega)) (cwV 2 hts gX8_go_X8_isThrown rfl rfl rfl (by decide +kernel) ⟨Nat.le_of_ble_eq_true rfl, Nat.le_of_ble_eq_true rfl⟩) (rc_M hC hW) hW hS ⟨Nat.zero_le _, Nat.zero_le _⟩ rfl rfl (Nat.le_of_ble_eq_true rfl) dX8_go_28 (fun H locs hW hS _ _ => ?_)
    have hW : WP Dg mcnt ad (mE cA ad τ) _ := (sw hW (ups_id _ _ _ _ (by rw [hτ, ups_eq])))
    refine k_if_eq (tgt := 36) hC dX8_go_31 (by decide) (by omega) (fun c3 => ?_) (fun c3 => absurd c3 (by omega))
    refine lv_aload_n hx hb dX8_go_36 rfl (lv_at hl 0 rfl) ?_
    refine mg_place hC hW hin_X8 hl_83 dX8_go_37 ?_
    refine lv_iload_n hx hb dX8_go_40 rfl (lv_at hl 1 rfl) ?_
    refine ma_place hC hW (by omega) (v := τ 22 v 0) rfl dX8_go_41 ?_
    refine lv_istore_n (lv' := [(3, .int (zi (τ 22 v 0))), (0, .ref (ad 0 0)), (1, .int (zi v)), (2, .int (zi k))]) hx hb dX8_go_42 rfl hl (by decide) rfl (fun ls hl => ?_)
    refine lv_aload_n hx hb dX8_go_43 rfl (lv_at hl 1 rfl) ?_
    refine mg_place hC hW hin_X8 hl_83 dX8_go_44 ?_
    refine lv_iload_n hx hb dX8_go_47 rfl (lv_at hl 2 rfl) ?_
    refine lv_iload_n hx hb dX8_go_48 rfl (lv_at hl 3 rfl) ?_
    refine ms_place hC hW (by omega) hS dX8_go_49 (fun H locs hW hS => ?_)
    obtain ⟨σ1, hσ1⟩ : ∃ z, z = ups τ 22 v 0 k := ⟨_, rfl⟩
    rw [← hσ1] at hW
    refine lv_iload_n hx hb dX8_go_50 rfl (lv_at hl 0 rfl) ?_
    have hW : WP Dg mcnt ad (mE cA ad (ups τ 22 v 0 k)) _ := (sw hW (by rw [hσ1]))
    exact k_iret hX rfl hW hS dX8_go_51
  · refine lv_aload_n hx hb dX8_go_14 rfl (lv_at hl 0 rfl) ?_
    refine lv_iload_n hx hb dX8_go_15 rfl (lv_at hl 2 rfl) ?_
    refine k_callI (As := [.int (zi k)]) (rest := [.ref (ad 0 0)]) hX hl.1 (n_isKiosk hI τ k (by omega) (by omega)) (cwV 1 hts gX8_go_X8_isKiosk rfl rfl rfl (by decide +kernel) ⟨Nat.le_of_ble_eq_true rfl, Nat.le_of_ble_eq_true rfl⟩) (rc_M hC hW) hW hS ⟨Nat.zero_le _, Nat.zero_le _⟩ rfl rfl (Nat.le_of_ble_eq_true rfl) dX8_go_16 (fun H locs hW hS _ _ => ?_)
    refine k_if_ne (tgt := 26) hC dX8_go_19 (by decide) (by omega) (fun c4 => ?_) (fun c4 => absurd c4 (by omega))
    refine k_iconst hC dX8_go_26 ?_
    refine k_iconst hC dX8_go_27 ?_
    refine k_callI (As := [.int (zi 0), .int (zi 1)]) (rest := []) hX hl.1 (n_thr0 hI τ 1 (by omega)) (cwV 2 hts gX8_go_X8_isThrown rfl rfl rfl (by decide +kernel) ⟨Nat.le_of_ble_eq_true rfl, Nat.le_of_ble_eq_true rfl⟩) (rc_M hC hW) hW hS ⟨Nat.zero_le _, Nat.zero_le _⟩ rfl rfl (Nat.le_of_ble_eq_true rfl) dX8_go_28 (fun H locs hW hS _ _ => ?_)
    have hW : WP Dg mcnt ad (mE cA ad τ) _ := (sw hW (ups_id _ _ _ _ (by rw [hτ, ups_eq])))
    refine k_if_eq (tgt := 36) hC dX8_go_31 (by decide) (by omega) (fun c5 => ?_) (fun c5 => absurd c5 (by omega))
    refine lv_aload_n hx hb dX8_go_36 rfl (lv_at hl 0 rfl) ?_
    refine mg_place hC hW hin_X8 hl_83 dX8_go_37 ?_
    refine lv_iload_n hx hb dX8_go_40 rfl (lv_at hl 1 rfl) ?_
    refine ma_place hC hW (by omega) (v := τ 22 v 0) rfl dX8_go_41 ?_
    refine lv_istore_n (lv' := [(3, .int (zi (τ 22 v 0))), (0, .ref (ad 0 0)), (1, .int (zi v)), (2, .int (zi k))]) hx hb dX8_go_42 rfl hl (by decide) rfl (fun ls hl => ?_)
    refine lv_aload_n hx hb dX8_go_43 rfl (lv_at hl 1 rfl) ?_
    refine mg_place hC hW hin_X8 hl_83 dX8_go_44 ?_
    refine lv_iload_n hx hb dX8_go_47 rfl (lv_at hl 2 rfl) ?_
    refine lv_iload_n hx hb dX8_go_48 rfl (lv_at hl 3 rfl) ?_
    refine ms_place hC hW (by omega) hS dX8_go_49 (fun H locs hW hS => ?_)
    obtain ⟨σ2, hσ2⟩ : ∃ z, z = ups τ 22 v 0 k := ⟨_, rfl⟩
    rw [← hσ2] at hW
    refine lv_iload_n hx hb dX8_go_50 rfl (lv_at hl 0 rfl) ?_
    have hW : WP Dg mcnt ad (mE cA ad (ups τ 22 v 0 k)) _ := (sw hW (by rw [hσ2]))
    exact k_iret hX rfl hW hS dX8_go_51
set_option maxHeartbeats 1000000 in
set_option maxRecDepth 100000 in
theorem n_go_x {l : Launch} {Dg : va_G} {cA : Nat → ClassId} {ad : Nat → Int → Nat} {oc : Nat → Nat} (hI : WI mcnt ad) {N M : Int} (σ : St) (v k : Int) (hv : Inv N M σ) (h1 : ¬ (0 ≤ v ∧ v < σ 28 0 0)) (hxr : -2147483648 ≤ v ∧ v < 2147483648) : GI l yX8_go wsX8_go ({ frames := 2, cells := 0, slots := 0, locals := 43 } : Room) Dg cA mcnt ad oc (mE cA ad σ) [.ref (ad 0 0), .int (zi v), .int (zi k)] 0 (mE cA ad (ups σ 31 0 0 1)) := by
  intro sz
  refine g_ent (cc := cX8_go) (maxL := 4) (ret := (some .int)) (by decide) rfl hI (Nat.le_of_ble_eq_true rfl) ?_
  intro pgm env s₀ m₀ bel mth cod hX hW hS hsz ls hl
  subst hsz
  have hC := hX.1
  have hx := hC.1
  have hb := hC.2.1
  have hts := hC.2.2.2.1
  have hl : lv_has ls 4 [(0, .ref (ad 0 0)), (1, .int (zi v)), (2, .int (zi k))] := hl
  have hA := hv.A
  unfold IvA at hA
  refine lv_aload_n hx hb dX8_go_0 rfl (lv_at hl 0 rfl) ?_
  refine lv_iload_n hx hb dX8_go_1 rfl (lv_at hl 1 rfl) ?_
  refine k_callI (As := [.int (zi v)]) (rest := []) hX hl.1 (n_isNoVisitor_x hI σ v (by omega) h1 hxr) (cwV 1 hts gX8_go_X8_isNoVisitor rfl rfl rfl (by decide +kernel) ⟨Nat.le_of_ble_eq_true rfl, Nat.le_of_ble_eq_true rfl⟩) (rc_M hC hW) hW hS ⟨Nat.zero_le _, Nat.zero_le _⟩ rfl rfl (Nat.le_of_ble_eq_true rfl) dX8_go_2 (fun H locs hW hS _ _ => ?_)
  obtain ⟨σ1, hσ1⟩ : ∃ z, z = ups σ 31 0 0 1 := ⟨_, rfl⟩
  rw [← hσ1] at hW
  refine k_if_ne (tgt := 34) hC dX8_go_5 (by decide) (by omega) (fun c1 => ?_) (fun c1 => absurd c1 (by omega))
  refine k_iconst hC dX8_go_34 ?_
  have hW : WP Dg mcnt ad (mE cA ad (ups σ 31 0 0 1)) _ := (sw hW (by first | (rw [hσ1]; done) | (rw [hσ1]; exact ups_ups _ _ _ _ _ _) | (rw [hσ1, ups_ups, ups_ups]; done)))
  exact k_iret hX rfl hW hS dX8_go_35
set_option maxHeartbeats 1000000 in
set_option maxRecDepth 100000 in
theorem n_go_y {l : Launch} {Dg : va_G} {cA : Nat → ClassId} {ad : Nat → Int → Nat} {oc : Nat → Nat} (hI : WI mcnt ad) {N M : Int} (σ : St) (v k : Int) (hv : Inv N M σ) (hvi : 0 ≤ v ∧ v < σ 28 0 0) (h1 : ¬ (k = -1 ∨ (0 ≤ k ∧ k < σ 27 0 0))) (hxr : -2147483648 ≤ k ∧ k < 2147483648) : GI l yX8_go wsX8_go ({ frames := 2, cells := 0, slots := 0, locals := 43 } : Room) Dg cA mcnt ad oc (mE cA ad σ) [.ref (ad 0 0), .int (zi v), .int (zi k)] 0 (mE cA ad (ups σ 31 0 0 1)) := by
  intro sz
  refine g_ent (cc := cX8_go) (maxL := 4) (ret := (some .int)) (by decide) rfl hI (Nat.le_of_ble_eq_true rfl) ?_
  intro pgm env s₀ m₀ bel mth cod hX hW hS hsz ls hl
  subst hsz
  have hC := hX.1
  have hx := hC.1
  have hb := hC.2.1
  have hts := hC.2.2.2.1
  have hl : lv_has ls 4 [(0, .ref (ad 0 0)), (1, .int (zi v)), (2, .int (zi k))] := hl
  have hA := hv.A
  unfold IvA at hA
  obtain ⟨v1, v2⟩ := hv.V v (by omega) (by omega)
  refine lv_aload_n hx hb dX8_go_0 rfl (lv_at hl 0 rfl) ?_
  refine lv_iload_n hx hb dX8_go_1 rfl (lv_at hl 1 rfl) ?_
  refine k_callI (As := [.int (zi v)]) (rest := []) hX hl.1 (n_isNoVisitor0 hI σ v (by omega) hvi) (cwV 1 hts gX8_go_X8_isNoVisitor rfl rfl rfl (by decide +kernel) ⟨Nat.le_of_ble_eq_true rfl, Nat.le_of_ble_eq_true rfl⟩) (rc_M hC hW) hW hS ⟨Nat.zero_le _, Nat.zero_le _⟩ rfl rfl (Nat.le_of_ble_eq_true rfl) dX8_go_2 (fun H locs hW hS _ _ => ?_)
  obtain ⟨σ1, hσ1⟩ : ∃ z, z = ups σ 31 0 0 0 := ⟨_, rfl⟩
  rw [← hσ1] at hW
  refine k_if_ne (tgt := 34) hC dX8_go_5 (by decide) (by omega) (fun c1 => absurd c1 (by omega)) (fun c1 => ?_)
  refine lv_aload_n hx hb dX8_go_8 rfl (lv_at hl 0 rfl) ?_
  refine lv_iload_n hx hb dX8_go_9 rfl (lv_at hl 2 rfl) ?_
  refine k_iconst hC dX8_go_10 ?_
  refine k_icmp_eq (tgt := 26) hC dX8_go_11 (by decide) (by omega) (fun c2 => absurd c2 (by omega)) (fun c2 => ?_)
  refine lv_aload_n hx hb dX8_go_14 rfl (lv_at hl 0 rfl) ?_
  refine lv_iload_n hx hb dX8_go_15 rfl (lv_at hl 2 rfl) ?_
  refine k_callI (As := [.int (zi k)]) (rest := [.ref (ad 0 0)]) hX hl.1 (n_isKiosk hI σ1 k (by rw [hσ1, ups_t _ (by decide)]; omega) hxr) (cwV 1 hts gX8_go_X8_isKiosk rfl rfl rfl (by decide +kernel) ⟨Nat.le_of_ble_eq_true rfl, Nat.le_of_ble_eq_true rfl⟩) (rc_M hC hW) hW hS ⟨Nat.zero_le _, Nat.zero_le _⟩ rfl rfl (Nat.le_of_ble_eq_true rfl) dX8_go_16 (fun H locs hW hS _ _ => ?_)
  refine k_top0 (show ((if 0 ≤ k ∧ k < σ1 27 0 0 then 1 else 0) : Int) = 0 from (if_neg (by rw [hσ1, ups_t _ (by decide)]; omega))) ?_
  refine k_if_ne (tgt := 26) hC dX8_go_19 (by decide) (by omega) (fun c3 => absurd c3 (by omega)) (fun c3 => ?_)
  refine k_iconst hC dX8_go_22 ?_
  refine lv_goto (tgt := 27) hx hb dX8_go_23 (by decide) ?_
  refine k_iconst hC dX8_go_27 ?_
  refine k_callI (As := [.int (zi 1), .int (zi 1)]) (rest := []) hX hl.1 (n_thr1 hI σ1 1 (by omega)) (cwV 2 hts gX8_go_X8_isThrown rfl rfl rfl (by decide +kernel) ⟨Nat.le_of_ble_eq_true rfl, Nat.le_of_ble_eq_true rfl⟩) (rc_M hC hW) hW hS ⟨Nat.zero_le _, Nat.zero_le _⟩ rfl rfl (Nat.le_of_ble_eq_true rfl) dX8_go_28 (fun H locs hW hS _ _ => ?_)
  obtain ⟨σ2, hσ2⟩ : ∃ z, z = ups σ1 31 0 0 1 := ⟨_, rfl⟩
  rw [← hσ2] at hW
  refine k_if_eq (tgt := 36) hC dX8_go_31 (by decide) (by omega) (fun c4 => absurd c4 (by omega)) (fun c4 => ?_)
  refine k_iconst hC dX8_go_34 ?_
  have hW : WP Dg mcnt ad (mE cA ad (ups σ 31 0 0 1)) _ := (sw hW (by first | (rw [hσ2, hσ1]; done) | (rw [hσ2, hσ1]; exact ups_ups _ _ _ _ _ _) | (rw [hσ2, hσ1, ups_ups, ups_ups]; done)))
  exact k_iret hX rfl hW hS dX8_go_35
set_option maxHeartbeats 1000000 in
set_option maxRecDepth 100000 in
theorem n_ask {l : Launch} {Dg : va_G} {cA : Nat → ClassId} {ad : Nat → Int → Nat} {oc : Nat → Nat} (hI : WI mcnt ad) {N M : Int} {τ : St} (σ : St) (v n : Int) (hτ : τ = ups σ 31 0 0 0) (hv : Inv N M τ) (hvi : 0 ≤ v ∧ v < τ 28 0 0) (hsl : 0 ≤ n ∧ n < 100) (hN : N ≤ 1000000) : GI l yX8_ask wsX8_ask ({ frames := 2, cells := 0, slots := 0, locals := 43 } : Room) Dg cA mcnt ad oc (mE cA ad σ) [.ref (ad 0 0), .int (zi v), .int (zi n)] (if 0 < τ 19 v n then 1 else 0) (mE cA ad (ups (ups τ 21 v n 1) 20 v n (τ 20 v n + 1))) := by
  intro sz
  refine g_ent (cc := cX8_ask) (maxL := 3) (ret := (some .boolean)) (by decide) rfl hI (Nat.le_of_ble_eq_true rfl) ?_
  intro pgm env s₀ m₀ bel mth cod hX hW hS hsz ls hl
  subst hsz
  have hC := hX.1
  have hx := hC.1
  have hb := hC.2.1
  have hts := hC.2.2.2.1
  have hl : lv_has ls 3 [(0, .ref (ad 0 0)), (1, .int (zi v)), (2, .int (zi n))] := hl
  have hin_X8 : ∀ w ∈ wsX80, w ∈ wsX8_ask := by decide +kernel
  have hl_80 := hts (.fieldLink RX8 80 "KioskReelModel" "saw" "[I") (by decide +kernel)
  have hl_86 := hts (.fieldLink RX8 86 "KioskReelModel" "asked" "[Z") (by decide +kernel)
  have eσ : ∀ (t : Nat) (i j : Int), t ≠ 31 → σ t i j = τ t i j := fun t i j h => by rw [hτ, ups_t _ h]
  have e26 := eσ 26 0 0 (by decide)
  have e27 := eσ 27 0 0 (by decide)
  have e28 := eσ 28 0 0 (by decide)
  have hA := hv.A
  unfold IvA at hA
  obtain ⟨v1, v2⟩ := hv.V v (by omega) (by omega)
  have v3 := v2 n (by omega) (by omega)
  refine lv_aload_n hx hb dX8_ask_0 rfl (lv_at hl 0 rfl) ?_
  refine lv_iload_n hx hb dX8_ask_1 rfl (lv_at hl 1 rfl) ?_
  refine k_callI (As := [.int (zi v)]) (rest := []) hX hl.1 (n_isNoVisitor0 hI σ v (by omega) (by omega)) (cwV 1 hts gX8_ask_X8_isNoVisitor rfl rfl rfl (by decide +kernel) ⟨Nat.le_of_ble_eq_true rfl, Nat.le_of_ble_eq_true rfl⟩) (rc_M hC hW) hW hS ⟨Nat.zero_le _, Nat.zero_le _⟩ rfl rfl (Nat.le_of_ble_eq_true rfl) dX8_ask_2 (fun H locs hW hS _ _ => ?_)
  have hW : WP Dg mcnt ad (mE cA ad τ) _ := (sw hW hτ.symm)
  refine k_if_ne (tgt := 31) hC dX8_ask_5 (by decide) (by omega) (fun c1 => absurd c1 (by omega)) (fun c1 => ?_)
  refine lv_aload_n hx hb dX8_ask_8 rfl (lv_at hl 0 rfl) ?_
  refine lv_iload_n hx hb dX8_ask_9 rfl (lv_at hl 2 rfl) ?_
  refine k_iconst hC dX8_ask_10 ?_
  refine k_bipush hC dX8_ask_11 (by decide) ?_
  refine k_callSI (As := [.int (zi n), .int (zi 0), .int (zi 99)]) (rest := [.ref (ad 0 0)]) hX hl.1 (n_isIn hI τ n 0 99 (by omega) (by omega) (by omega)) (cwS 3 hts gX8_ask_X8_isIn rfl rfl rfl (by decide +kernel) ⟨Nat.le_of_ble_eq_true rfl, Nat.le_of_ble_eq_true rfl⟩) hW hS ⟨Nat.zero_le _, Nat.zero_le _⟩ rfl rfl (Nat.le_of_ble_eq_true rfl) dX8_ask_13 (fun H locs hW hS _ _ => ?_)
  refine k_if_ne (tgt := 23) hC dX8_ask_16 (by decide) (by omega) (fun c2 => ?_) (fun c2 => absurd c2 (by omega))
  refine k_iconst hC dX8_ask_23 ?_
  refine k_iconst hC dX8_ask_24 ?_
  refine k_callI (As := [.int (zi 0), .int (zi 2)]) (rest := []) hX hl.1 (n_thr0 hI τ 2 (by omega)) (cwV 2 hts gX8_ask_X8_isThrown rfl rfl rfl (by decide +kernel) ⟨Nat.le_of_ble_eq_true rfl, Nat.le_of_ble_eq_true rfl⟩) (rc_M hC hW) hW hS ⟨Nat.zero_le _, Nat.zero_le _⟩ rfl rfl (Nat.le_of_ble_eq_true rfl) dX8_ask_25 (fun H locs hW hS _ _ => ?_)
  have hW : WP Dg mcnt ad (mE cA ad τ) _ := (sw hW (ups_id _ _ _ _ (by rw [hτ, ups_eq])))
  refine k_if_eq (tgt := 33) hC dX8_ask_28 (by decide) (by omega) (fun c3 => ?_) (fun c3 => absurd c3 (by omega))
  refine lv_aload_n hx hb dX8_ask_33 rfl (lv_at hl 0 rfl) ?_
  refine mg_asked hC hW hin_X8 hl_86 dX8_ask_34 ?_
  refine k_bipush hC dX8_ask_37 (by decide) ?_
  refine lv_iload_n hx hb dX8_ask_39 rfl (lv_at hl 1 rfl) ?_
  refine k_imul hC dX8_ask_40 ?_
  refine lv_iload_n hx hb dX8_ask_41 rfl (lv_at hl 2 rfl) ?_
  refine k_iadd hC dX8_ask_42 ?_
  refine k_iconst hC dX8_ask_43 ?_
  refine ms_asked hC hW v n (by omega) (by omega) (by omega) hS (by omega) dX8_ask_44 (fun H locs hW hS => ?_)
  obtain ⟨σ1, hσ1⟩ : ∃ z, z = ups τ 21 v n 1 := ⟨_, rfl⟩
  rw [← hσ1] at hW
  refine lv_aload_n hx hb dX8_ask_45 rfl (lv_at hl 0 rfl) ?_
  refine mg_saw hC hW hin_X8 hl_80 dX8_ask_46 ?_
  refine k_bipush hC dX8_ask_49 (by decide) ?_
  refine lv_iload_n hx hb dX8_ask_51 rfl (lv_at hl 1 rfl) ?_
  refine k_imul hC dX8_ask_52 ?_
  refine lv_iload_n hx hb dX8_ask_53 rfl (lv_at hl 2 rfl) ?_
  refine k_iadd hC dX8_ask_54 ?_
  refine ma_saw hC hW v n (by omega) (by omega) (by omega) (v := τ 19 v n) (by rw [hσ1, ups_t _ (by decide)]) dX8_ask_55 ?_
  refine k_if_le (tgt := 63) hC dX8_ask_56 (by decide) (by omega) (fun c4 => ?_) (fun c4 => ?_)
  · refine k_iconst hC dX8_ask_63 ?_
    have hW : WP Dg mcnt ad (mE cA ad (ups (ups τ 21 v n 1) 20 v n (τ 20 v n + 1))) _ := (ghM (u := 20) (fun _ => rfl) (sw hW (by rw [hσ1])))
    exact k_zret hX (by omega) (by first | rw [if_pos (by omega)] | rw [if_neg (by omega)]) hW hS dX8_ask_64
  · refine k_iconst hC dX8_ask_59 ?_
    refine lv_goto (tgt := 64) hx hb dX8_ask_60 (by decide) ?_
    have hW : WP Dg mcnt ad (mE cA ad (ups (ups τ 21 v n 1) 20 v n (τ 20 v n + 1))) _ := (ghM (u := 20) (fun _ => rfl) (sw hW (by rw [hσ1])))
    exact k_zret hX (by omega) (by first | rw [if_pos (by omega)] | rw [if_neg (by omega)]) hW hS dX8_ask_64
set_option maxHeartbeats 1000000 in
set_option maxRecDepth 100000 in
theorem n_saw {l : Launch} {Dg : va_G} {cA : Nat → ClassId} {ad : Nat → Int → Nat} {oc : Nat → Nat} (hI : WI mcnt ad) {N M : Int} {τ : St} (σ : St) (v n : Int) (hτ : τ = ups σ 31 0 0 0) (hv : Inv N M τ) (hvi : 0 ≤ v ∧ v < τ 28 0 0) (hsl : 0 ≤ n ∧ n < 100) : GI l yX8_saw wsX8_saw ({ frames := 2, cells := 0, slots := 0, locals := 43 } : Room) Dg cA mcnt ad oc (mE cA ad σ) [.ref (ad 0 0), .int (zi v), .int (zi n)] (τ 19 v n) (mE cA ad τ) := by
  intro sz
  refine g_ent (cc := cX8_saw) (maxL := 3) (ret := (some .int)) (by decide) rfl hI (Nat.le_of_ble_eq_true rfl) ?_
  intro pgm env s₀ m₀ bel mth cod hX hW hS hsz ls hl
  subst hsz
  have hC := hX.1
  have hx := hC.1
  have hb := hC.2.1
  have hts := hC.2.2.2.1
  have hl : lv_has ls 3 [(0, .ref (ad 0 0)), (1, .int (zi v)), (2, .int (zi n))] := hl
  have hin_X8 : ∀ w ∈ wsX80, w ∈ wsX8_saw := by decide +kernel
  have hl_80 := hts (.fieldLink RX8 80 "KioskReelModel" "saw" "[I") (by decide +kernel)
  have eσ : ∀ (t : Nat) (i j : Int), t ≠ 31 → σ t i j = τ t i j := fun t i j h => by rw [hτ, ups_t _ h]
  have e26 := eσ 26 0 0 (by decide)
  have e27 := eσ 27 0 0 (by decide)
  have e28 := eσ 28 0 0 (by decide)
  have hA := hv.A
  unfold IvA at hA
  obtain ⟨v1, v2⟩ := hv.V v (by omega) (by omega)
  refine lv_aload_n hx hb dX8_saw_0 rfl (lv_at hl 0 rfl) ?_
  refine lv_iload_n hx hb dX8_saw_1 rfl (lv_at hl 1 rfl) ?_
  refine k_callI (As := [.int (zi v)]) (rest := []) hX hl.1 (n_isNoVisitor0 hI σ v (by omega) (by omega)) (cwV 1 hts gX8_saw_X8_isNoVisitor rfl rfl rfl (by decide +kernel) ⟨Nat.le_of_ble_eq_true rfl, Nat.le_of_ble_eq_true rfl⟩) (rc_M hC hW) hW hS ⟨Nat.zero_le _, Nat.zero_le _⟩ rfl rfl (Nat.le_of_ble_eq_true rfl) dX8_saw_2 (fun H locs hW hS _ _ => ?_)
  have hW : WP Dg mcnt ad (mE cA ad τ) _ := (sw hW hτ.symm)
  refine k_if_ne (tgt := 31) hC dX8_saw_5 (by decide) (by omega) (fun c1 => absurd c1 (by omega)) (fun c1 => ?_)
  refine lv_aload_n hx hb dX8_saw_8 rfl (lv_at hl 0 rfl) ?_
  refine lv_iload_n hx hb dX8_saw_9 rfl (lv_at hl 2 rfl) ?_
  refine k_iconst hC dX8_saw_10 ?_
  refine k_bipush hC dX8_saw_11 (by decide) ?_
  refine k_callSI (As := [.int (zi n), .int (zi 0), .int (zi 99)]) (rest := [.ref (ad 0 0)]) hX hl.1 (n_isIn hI τ n 0 99 (by omega) (by omega) (by omega)) (cwS 3 hts gX8_saw_X8_isIn rfl rfl rfl (by decide +kernel) ⟨Nat.le_of_ble_eq_true rfl, Nat.le_of_ble_eq_true rfl⟩) hW hS ⟨Nat.zero_le _, Nat.zero_le _⟩ rfl rfl (Nat.le_of_ble_eq_true rfl) dX8_saw_13 (fun H locs hW hS _ _ => ?_)
  refine k_if_ne (tgt := 23) hC dX8_saw_16 (by decide) (by omega) (fun c2 => ?_) (fun c2 => absurd c2 (by omega))
  refine k_iconst hC dX8_saw_23 ?_
  refine k_iconst hC dX8_saw_24 ?_
  refine k_callI (As := [.int (zi 0), .int (zi 2)]) (rest := []) hX hl.1 (n_thr0 hI τ 2 (by omega)) (cwV 2 hts gX8_saw_X8_isThrown rfl rfl rfl (by decide +kernel) ⟨Nat.le_of_ble_eq_true rfl, Nat.le_of_ble_eq_true rfl⟩) (rc_M hC hW) hW hS ⟨Nat.zero_le _, Nat.zero_le _⟩ rfl rfl (Nat.le_of_ble_eq_true rfl) dX8_saw_25 (fun H locs hW hS _ _ => ?_)
  have hW : WP Dg mcnt ad (mE cA ad τ) _ := (sw hW (ups_id _ _ _ _ (by rw [hτ, ups_eq])))
  refine k_if_eq (tgt := 35) hC dX8_saw_28 (by decide) (by omega) (fun c3 => ?_) (fun c3 => absurd c3 (by omega))
  refine lv_aload_n hx hb dX8_saw_35 rfl (lv_at hl 0 rfl) ?_
  refine mg_saw hC hW hin_X8 hl_80 dX8_saw_36 ?_
  refine k_bipush hC dX8_saw_39 (by decide) ?_
  refine lv_iload_n hx hb dX8_saw_41 rfl (lv_at hl 1 rfl) ?_
  refine k_imul hC dX8_saw_42 ?_
  refine lv_iload_n hx hb dX8_saw_43 rfl (lv_at hl 2 rfl) ?_
  refine k_iadd hC dX8_saw_44 ?_
  refine ma_saw hC hW v n (by omega) (by omega) (by omega) (v := τ 19 v n) rfl dX8_saw_45 ?_
  exact k_iret hX rfl hW hS dX8_saw_46
set_option maxHeartbeats 1000000 in
set_option maxRecDepth 100000 in
theorem n_ask_x {l : Launch} {Dg : va_G} {cA : Nat → ClassId} {ad : Nat → Int → Nat} {oc : Nat → Nat} (hI : WI mcnt ad) {N M : Int} (σ : St) (v n : Int) (hv : Inv N M σ) (h1 : ¬ (0 ≤ v ∧ v < σ 28 0 0)) (hxr : -2147483648 ≤ v ∧ v < 2147483648) : GI l yX8_ask wsX8_ask ({ frames := 2, cells := 0, slots := 0, locals := 43 } : Room) Dg cA mcnt ad oc (mE cA ad σ) [.ref (ad 0 0), .int (zi v), .int (zi n)] 0 (mE cA ad (ups σ 31 0 0 1)) := by
  intro sz
  refine g_ent (cc := cX8_ask) (maxL := 3) (ret := (some .boolean)) (by decide) rfl hI (Nat.le_of_ble_eq_true rfl) ?_
  intro pgm env s₀ m₀ bel mth cod hX hW hS hsz ls hl
  subst hsz
  have hC := hX.1
  have hx := hC.1
  have hb := hC.2.1
  have hts := hC.2.2.2.1
  have hl : lv_has ls 3 [(0, .ref (ad 0 0)), (1, .int (zi v)), (2, .int (zi n))] := hl
  have hA := hv.A
  unfold IvA at hA
  refine lv_aload_n hx hb dX8_ask_0 rfl (lv_at hl 0 rfl) ?_
  refine lv_iload_n hx hb dX8_ask_1 rfl (lv_at hl 1 rfl) ?_
  refine k_callI (As := [.int (zi v)]) (rest := []) hX hl.1 (n_isNoVisitor_x hI σ v (by omega) h1 hxr) (cwV 1 hts gX8_ask_X8_isNoVisitor rfl rfl rfl (by decide +kernel) ⟨Nat.le_of_ble_eq_true rfl, Nat.le_of_ble_eq_true rfl⟩) (rc_M hC hW) hW hS ⟨Nat.zero_le _, Nat.zero_le _⟩ rfl rfl (Nat.le_of_ble_eq_true rfl) dX8_ask_2 (fun H locs hW hS _ _ => ?_)
  obtain ⟨σ1, hσ1⟩ : ∃ z, z = ups σ 31 0 0 1 := ⟨_, rfl⟩
  rw [← hσ1] at hW
  refine k_if_ne (tgt := 31) hC dX8_ask_5 (by decide) (by omega) (fun c1 => ?_) (fun c1 => absurd c1 (by omega))
  refine k_iconst hC dX8_ask_31 ?_
  have hW : WP Dg mcnt ad (mE cA ad (ups σ 31 0 0 1)) _ := (sw hW (by first | (rw [hσ1]; done) | (rw [hσ1]; exact ups_ups _ _ _ _ _ _) | (rw [hσ1, ups_ups, ups_ups]; done)))
  exact k_zret hX (by omega) rfl hW hS dX8_ask_32
set_option maxHeartbeats 1000000 in
set_option maxRecDepth 100000 in
theorem n_ask_s {l : Launch} {Dg : va_G} {cA : Nat → ClassId} {ad : Nat → Int → Nat} {oc : Nat → Nat} (hI : WI mcnt ad) {N M : Int} (σ : St) (v n : Int) (hv : Inv N M σ) (hvi : 0 ≤ v ∧ v < σ 28 0 0) (h1 : ¬ (0 ≤ n ∧ n < 100)) (hxr : -2147483648 ≤ n ∧ n < 2147483648) : GI l yX8_ask wsX8_ask ({ frames := 2, cells := 0, slots := 0, locals := 43 } : Room) Dg cA mcnt ad oc (mE cA ad σ) [.ref (ad 0 0), .int (zi v), .int (zi n)] 0 (mE cA ad (ups σ 31 0 0 2)) := by
  intro sz
  refine g_ent (cc := cX8_ask) (maxL := 3) (ret := (some .boolean)) (by decide) rfl hI (Nat.le_of_ble_eq_true rfl) ?_
  intro pgm env s₀ m₀ bel mth cod hX hW hS hsz ls hl
  subst hsz
  have hC := hX.1
  have hx := hC.1
  have hb := hC.2.1
  have hts := hC.2.2.2.1
  have hl : lv_has ls 3 [(0, .ref (ad 0 0)), (1, .int (zi v)), (2, .int (zi n))] := hl
  have hA := hv.A
  unfold IvA at hA
  obtain ⟨v1, v2⟩ := hv.V v (by omega) (by omega)
  refine lv_aload_n hx hb dX8_ask_0 rfl (lv_at hl 0 rfl) ?_
  refine lv_iload_n hx hb dX8_ask_1 rfl (lv_at hl 1 rfl) ?_
  refine k_callI (As := [.int (zi v)]) (rest := []) hX hl.1 (n_isNoVisitor0 hI σ v (by omega) hvi) (cwV 1 hts gX8_ask_X8_isNoVisitor rfl rfl rfl (by decide +kernel) ⟨Nat.le_of_ble_eq_true rfl, Nat.le_of_ble_eq_true rfl⟩) (rc_M hC hW) hW hS ⟨Nat.zero_le _, Nat.zero_le _⟩ rfl rfl (Nat.le_of_ble_eq_true rfl) dX8_ask_2 (fun H locs hW hS _ _ => ?_)
  obtain ⟨σ1, hσ1⟩ : ∃ z, z = ups σ 31 0 0 0 := ⟨_, rfl⟩
  rw [← hσ1] at hW
  refine k_if_ne (tgt := 31) hC dX8_ask_5 (by decide) (by omega) (fun c1 => absurd c1 (by omega)) (fun c1 => ?_)
  refine lv_aload_n hx hb dX8_ask_8 rfl (lv_at hl 0 rfl) ?_
  refine lv_iload_n hx hb dX8_ask_9 rfl (lv_at hl 2 rfl) ?_
  refine k_iconst hC dX8_ask_10 ?_
  refine k_bipush hC dX8_ask_11 (by decide) ?_
  refine k_callSI (As := [.int (zi n), .int (zi 0), .int (zi 99)]) (rest := [.ref (ad 0 0)]) hX hl.1 (n_isIn hI σ1 n 0 99 (by omega) (by omega) (by omega)) (cwS 3 hts gX8_ask_X8_isIn rfl rfl rfl (by decide +kernel) ⟨Nat.le_of_ble_eq_true rfl, Nat.le_of_ble_eq_true rfl⟩) hW hS ⟨Nat.zero_le _, Nat.zero_le _⟩ rfl rfl (Nat.le_of_ble_eq_true rfl) dX8_ask_13 (fun H locs hW hS _ _ => ?_)
  refine k_if_ne (tgt := 23) hC dX8_ask_16 (by decide) (by omega) (fun c2 => absurd c2 (by omega)) (fun c2 => ?_)
  refine k_iconst hC dX8_ask_19 ?_
  refine lv_goto (tgt := 24) hx hb dX8_ask_20 (by decide) ?_
  refine k_iconst hC dX8_ask_24 ?_
  refine k_callI (As := [.int (zi 1), .int (zi 2)]) (rest := []) hX hl.1 (n_thr1 hI σ1 2 (by omega)) (cwV 2 hts gX8_ask_X8_isThrown rfl rfl rfl (by decide +kernel) ⟨Nat.le_of_ble_eq_true rfl, Nat.le_of_ble_eq_true rfl⟩) (rc_M hC hW) hW hS ⟨Nat.zero_le _, Nat.zero_le _⟩ rfl rfl (Nat.le_of_ble_eq_true rfl) dX8_ask_25 (fun H locs hW hS _ _ => ?_)
  obtain ⟨σ2, hσ2⟩ : ∃ z, z = ups σ1 31 0 0 2 := ⟨_, rfl⟩
  rw [← hσ2] at hW
  refine k_if_eq (tgt := 33) hC dX8_ask_28 (by decide) (by omega) (fun c3 => absurd c3 (by omega)) (fun c3 => ?_)
  refine k_iconst hC dX8_ask_31 ?_
  have hW : WP Dg mcnt ad (mE cA ad (ups σ 31 0 0 2)) _ := (sw hW (by first | (rw [hσ2, hσ1]; done) | (rw [hσ2, hσ1]; exact ups_ups _ _ _ _ _ _) | (rw [hσ2, hσ1, ups_ups, ups_ups]; done)))
  exact k_zret hX (by omega) rfl hW hS dX8_ask_32
set_option maxHeartbeats 1000000 in
set_option maxRecDepth 100000 in
theorem n_saw_x {l : Launch} {Dg : va_G} {cA : Nat → ClassId} {ad : Nat → Int → Nat} {oc : Nat → Nat} (hI : WI mcnt ad) {N M : Int} (σ : St) (v n : Int) (hv : Inv N M σ) (h1 : ¬ (0 ≤ v ∧ v < σ 28 0 0)) (hxr : -2147483648 ≤ v ∧ v < 2147483648) : GI l yX8_saw wsX8_saw ({ frames := 2, cells := 0, slots := 0, locals := 43 } : Room) Dg cA mcnt ad oc (mE cA ad σ) [.ref (ad 0 0), .int (zi v), .int (zi n)] 0 (mE cA ad (ups σ 31 0 0 1)) := by
  intro sz
  refine g_ent (cc := cX8_saw) (maxL := 3) (ret := (some .int)) (by decide) rfl hI (Nat.le_of_ble_eq_true rfl) ?_
  intro pgm env s₀ m₀ bel mth cod hX hW hS hsz ls hl
  subst hsz
  have hC := hX.1
  have hx := hC.1
  have hb := hC.2.1
  have hts := hC.2.2.2.1
  have hl : lv_has ls 3 [(0, .ref (ad 0 0)), (1, .int (zi v)), (2, .int (zi n))] := hl
  have hA := hv.A
  unfold IvA at hA
  refine lv_aload_n hx hb dX8_saw_0 rfl (lv_at hl 0 rfl) ?_
  refine lv_iload_n hx hb dX8_saw_1 rfl (lv_at hl 1 rfl) ?_
  refine k_callI (As := [.int (zi v)]) (rest := []) hX hl.1 (n_isNoVisitor_x hI σ v (by omega) h1 hxr) (cwV 1 hts gX8_saw_X8_isNoVisitor rfl rfl rfl (by decide +kernel) ⟨Nat.le_of_ble_eq_true rfl, Nat.le_of_ble_eq_true rfl⟩) (rc_M hC hW) hW hS ⟨Nat.zero_le _, Nat.zero_le _⟩ rfl rfl (Nat.le_of_ble_eq_true rfl) dX8_saw_2 (fun H locs hW hS _ _ => ?_)
  obtain ⟨σ1, hσ1⟩ : ∃ z, z = ups σ 31 0 0 1 := ⟨_, rfl⟩
  rw [← hσ1] at hW
  refine k_if_ne (tgt := 31) hC dX8_saw_5 (by decide) (by omega) (fun c1 => ?_) (fun c1 => absurd c1 (by omega))
  refine k_iconst hC dX8_saw_31 ?_
  refine lv_goto (tgt := 46) hx hb dX8_saw_32 (by decide) ?_
  have hW : WP Dg mcnt ad (mE cA ad (ups σ 31 0 0 1)) _ := (sw hW (by first | (rw [hσ1]; done) | (rw [hσ1]; exact ups_ups _ _ _ _ _ _) | (rw [hσ1, ups_ups, ups_ups]; done)))
  exact k_iret hX rfl hW hS dX8_saw_46
set_option maxHeartbeats 1000000 in
set_option maxRecDepth 100000 in
theorem n_saw_s {l : Launch} {Dg : va_G} {cA : Nat → ClassId} {ad : Nat → Int → Nat} {oc : Nat → Nat} (hI : WI mcnt ad) {N M : Int} (σ : St) (v n : Int) (hv : Inv N M σ) (hvi : 0 ≤ v ∧ v < σ 28 0 0) (h1 : ¬ (0 ≤ n ∧ n < 100)) (hxr : -2147483648 ≤ n ∧ n < 2147483648) : GI l yX8_saw wsX8_saw ({ frames := 2, cells := 0, slots := 0, locals := 43 } : Room) Dg cA mcnt ad oc (mE cA ad σ) [.ref (ad 0 0), .int (zi v), .int (zi n)] 0 (mE cA ad (ups σ 31 0 0 2)) := by
  intro sz
  refine g_ent (cc := cX8_saw) (maxL := 3) (ret := (some .int)) (by decide) rfl hI (Nat.le_of_ble_eq_true rfl) ?_
  intro pgm env s₀ m₀ bel mth cod hX hW hS hsz ls hl
  subst hsz
  have hC := hX.1
  have hx := hC.1
  have hb := hC.2.1
  have hts := hC.2.2.2.1
  have hl : lv_has ls 3 [(0, .ref (ad 0 0)), (1, .int (zi v)), (2, .int (zi n))] := hl
  have hA := hv.A
  unfold IvA at hA
  obtain ⟨v1, v2⟩ := hv.V v (by omega) (by omega)
  refine lv_aload_n hx hb dX8_saw_0 rfl (lv_at hl 0 rfl) ?_
  refine lv_iload_n hx hb dX8_saw_1 rfl (lv_at hl 1 rfl) ?_
  refine k_callI (As := [.int (zi v)]) (rest := []) hX hl.1 (n_isNoVisitor0 hI σ v (by omega) hvi) (cwV 1 hts gX8_saw_X8_isNoVisitor rfl rfl rfl (by decide +kernel) ⟨Nat.le_of_ble_eq_true rfl, Nat.le_of_ble_eq_true rfl⟩) (rc_M hC hW) hW hS ⟨Nat.zero_le _, Nat.zero_le _⟩ rfl rfl (Nat.le_of_ble_eq_true rfl) dX8_saw_2 (fun H locs hW hS _ _ => ?_)
  obtain ⟨σ1, hσ1⟩ : ∃ z, z = ups σ 31 0 0 0 := ⟨_, rfl⟩
  rw [← hσ1] at hW
  refine k_if_ne (tgt := 31) hC dX8_saw_5 (by decide) (by omega) (fun c1 => absurd c1 (by omega)) (fun c1 => ?_)
  refine lv_aload_n hx hb dX8_saw_8 rfl (lv_at hl 0 rfl) ?_
  refine lv_iload_n hx hb dX8_saw_9 rfl (lv_at hl 2 rfl) ?_
  refine k_iconst hC dX8_saw_10 ?_
  refine k_bipush hC dX8_saw_11 (by decide) ?_
  refine k_callSI (As := [.int (zi n), .int (zi 0), .int (zi 99)]) (rest := [.ref (ad 0 0)]) hX hl.1 (n_isIn hI σ1 n 0 99 (by omega) (by omega) (by omega)) (cwS 3 hts gX8_saw_X8_isIn rfl rfl rfl (by decide +kernel) ⟨Nat.le_of_ble_eq_true rfl, Nat.le_of_ble_eq_true rfl⟩) hW hS ⟨Nat.zero_le _, Nat.zero_le _⟩ rfl rfl (Nat.le_of_ble_eq_true rfl) dX8_saw_13 (fun H locs hW hS _ _ => ?_)
  refine k_if_ne (tgt := 23) hC dX8_saw_16 (by decide) (by omega) (fun c2 => absurd c2 (by omega)) (fun c2 => ?_)
  refine k_iconst hC dX8_saw_19 ?_
  refine lv_goto (tgt := 24) hx hb dX8_saw_20 (by decide) ?_
  refine k_iconst hC dX8_saw_24 ?_
  refine k_callI (As := [.int (zi 1), .int (zi 2)]) (rest := []) hX hl.1 (n_thr1 hI σ1 2 (by omega)) (cwV 2 hts gX8_saw_X8_isThrown rfl rfl rfl (by decide +kernel) ⟨Nat.le_of_ble_eq_true rfl, Nat.le_of_ble_eq_true rfl⟩) (rc_M hC hW) hW hS ⟨Nat.zero_le _, Nat.zero_le _⟩ rfl rfl (Nat.le_of_ble_eq_true rfl) dX8_saw_25 (fun H locs hW hS _ _ => ?_)
  obtain ⟨σ2, hσ2⟩ : ∃ z, z = ups σ1 31 0 0 2 := ⟨_, rfl⟩
  rw [← hσ2] at hW
  refine k_if_eq (tgt := 35) hC dX8_saw_28 (by decide) (by omega) (fun c3 => absurd c3 (by omega)) (fun c3 => ?_)
  refine k_iconst hC dX8_saw_31 ?_
  refine lv_goto (tgt := 46) hx hb dX8_saw_32 (by decide) ?_
  have hW : WP Dg mcnt ad (mE cA ad (ups σ 31 0 0 2)) _ := (sw hW (by first | (rw [hσ2, hσ1]; done) | (rw [hσ2, hσ1]; exact ups_ups _ _ _ _ _ _) | (rw [hσ2, hσ1, ups_ups, ups_ups]; done)))
  exact k_iret hX rfl hW hS dX8_saw_46
set_option maxHeartbeats 1000000 in
set_option maxRecDepth 100000 in
theorem n_done {l : Launch} {Dg : va_G} {cA : Nat → ClassId} {ad : Nat → Int → Nat} {oc : Nat → Nat} (hI : WI mcnt ad) {τ : St} (σ : St) (hτ : τ = ups σ 31 0 0 0) : GL l yX8_done wsX8_done ({ frames := 0, cells := 0, slots := 0, locals := 0 } : Room) Dg cA mcnt ad oc (mE cA ad σ) [.ref (ad 0 0)] (τ 29 0 0) (mE cA ad τ) := by
  intro sz
  refine g_ent (cc := cX8_done) (maxL := 1) (ret := (some .long)) (by decide) rfl hI (Nat.le_of_ble_eq_true rfl) ?_
  intro pgm env s₀ m₀ bel mth cod hX hW hS hsz ls hl
  subst hsz
  have hC := hX.1
  have hx := hC.1
  have hb := hC.2.1
  have hts := hC.2.2.2.1
  have hl : lv_has ls 1 [(0, .ref (ad 0 0))] := hl
  have hin_X8 : ∀ w ∈ wsX80, w ∈ wsX8_done := by decide +kernel
  have hl_89 := hts (.fieldLink RX8 89 "KioskReelModel" "thrown" "I") (by decide +kernel)
  have hl_156 := hts (.fieldLink RX8 156 "KioskReelModel" "done" "J") (by decide +kernel)
  refine lv_aload_n hx hb dX8_done_0 rfl (lv_at hl 0 rfl) ?_
  refine k_iconst hC dX8_done_1 ?_
  refine mp_thrown_f hC hW hin_X8 hl_89 hS dX8_done_2 (fun H locs hW hS => ?_)
  obtain ⟨σ1, hσ1⟩ : ∃ z, z = ups σ 31 0 0 0 := ⟨_, rfl⟩
  rw [← hσ1] at hW
  refine lv_aload_n hx hb dX8_done_5 rfl (lv_at hl 0 rfl) ?_
  refine mg_done_f hC hW hin_X8 hl_156 (by rw [hσ1, ups_t _ (by decide)]) dX8_done_6 ?_
  have hW : WP Dg mcnt ad (mE cA ad τ) _ := (sw hW (by rw [hσ1, hτ]))
  exact k_lret hX (by rw [hτ, ups_t _ (by decide)]) hW hS dX8_done_9
set_option maxHeartbeats 1000000 in
set_option maxRecDepth 100000 in
theorem n_isSound {l : Launch} {Dg : va_G} {cA : Nat → ClassId} {ad : Nat → Int → Nat} {oc : Nat → Nat} (hI : WI mcnt ad) {τ : St} (σ : St) (hτ : τ = ups σ 31 0 0 0) : GI l yX8_isSound wsX8_isSound ({ frames := 0, cells := 0, slots := 0, locals := 0 } : Room) Dg cA mcnt ad oc (mE cA ad σ) [.ref (ad 0 0)] 1 (mE cA ad τ) := by
  intro sz
  refine g_ent (cc := cX8_isSound) (maxL := 1) (ret := (some .boolean)) (by decide) rfl hI (Nat.le_of_ble_eq_true rfl) ?_
  intro pgm env s₀ m₀ bel mth cod hX hW hS hsz ls hl
  subst hsz
  have hC := hX.1
  have hx := hC.1
  have hb := hC.2.1
  have hts := hC.2.2.2.1
  have hl : lv_has ls 1 [(0, .ref (ad 0 0))] := hl
  have hin_X8 : ∀ w ∈ wsX80, w ∈ wsX8_isSound := by decide +kernel
  have hl_89 := hts (.fieldLink RX8 89 "KioskReelModel" "thrown" "I") (by decide +kernel)
  refine lv_aload_n hx hb dX8_isSound_0 rfl (lv_at hl 0 rfl) ?_
  refine k_iconst hC dX8_isSound_1 ?_
  refine mp_thrown_f hC hW hin_X8 hl_89 hS dX8_isSound_2 (fun H locs hW hS => ?_)
  obtain ⟨σ1, hσ1⟩ : ∃ z, z = ups σ 31 0 0 0 := ⟨_, rfl⟩
  rw [← hσ1] at hW
  refine k_iconst hC dX8_isSound_5 ?_
  have hW : WP Dg mcnt ad (mE cA ad τ) _ := (sw hW (by rw [hσ1, hτ]))
  exact k_zret hX (by omega) rfl hW hS dX8_isSound_6
set_option maxHeartbeats 1000000 in
set_option maxRecDepth 100000 in
theorem n_tick_x {l : Launch} {Dg : va_G} {cA : Nat → ClassId} {ad : Nat → Int → Nat} {oc : Nat → Nat} (hI : WI mcnt ad) (σ : St) (n : Int) (h1 : ¬ (1 ≤ n ∧ n ≤ 50)) (hxr : -2147483648 ≤ n ∧ n < 2147483648) : GI l yX8_tick wsX8_tick ({ frames := 4, cells := 0, slots := 0, locals := 97 } : Room) Dg cA mcnt ad oc (mE cA ad σ) [.ref (ad 0 0), .int (zi n)] 0 (mE cA ad (ups σ 31 0 0 1)) := by
  intro sz
  refine g_ent (cc := cX8_tick) (maxL := 5) (ret := (some .int)) (by decide) rfl hI (Nat.le_of_ble_eq_true rfl) ?_
  intro pgm env s₀ m₀ bel mth cod hX hW hS hsz ls hl
  subst hsz
  have hC := hX.1
  have hx := hC.1
  have hb := hC.2.1
  have hts := hC.2.2.2.1
  have hl : lv_has ls 5 [(0, .ref (ad 0 0)), (1, .int (zi n))] := hl
  refine lv_aload_n hx hb dX8_tick_0 rfl (lv_at hl 0 rfl) ?_
  refine lv_iload_n hx hb dX8_tick_1 rfl (lv_at hl 1 rfl) ?_
  refine k_iconst hC dX8_tick_2 ?_
  refine k_bipush hC dX8_tick_3 (by decide) ?_
  refine k_callSI (As := [.int (zi n), .int (zi 1), .int (zi 50)]) (rest := [.ref (ad 0 0)]) hX hl.1 (n_isIn hI σ n 1 50 (by omega) (by omega) (by omega)) (cwS 3 hts gX8_tick_X8_isIn rfl rfl rfl (by decide +kernel) ⟨Nat.le_of_ble_eq_true rfl, Nat.le_of_ble_eq_true rfl⟩) hW hS ⟨Nat.zero_le _, Nat.zero_le _⟩ rfl rfl (Nat.le_of_ble_eq_true rfl) dX8_tick_5 (fun H locs hW hS _ _ => ?_)
  refine k_if_ne (tgt := 15) hC dX8_tick_8 (by decide) (by omega) (fun c1 => absurd c1 (by omega)) (fun c1 => ?_)
  refine k_iconst hC dX8_tick_11 ?_
  refine lv_goto (tgt := 16) hx hb dX8_tick_12 (by decide) ?_
  refine k_iconst hC dX8_tick_16 ?_
  refine k_callI (As := [.int (zi 1), .int (zi 1)]) (rest := []) hX hl.1 (n_thr1 hI σ 1 (by omega)) (cwV 2 hts gX8_tick_X8_isThrown rfl rfl rfl (by decide +kernel) ⟨Nat.le_of_ble_eq_true rfl, Nat.le_of_ble_eq_true rfl⟩) (rc_M hC hW) hW hS ⟨Nat.zero_le _, Nat.zero_le _⟩ rfl rfl (Nat.le_of_ble_eq_true rfl) dX8_tick_17 (fun H locs hW hS _ _ => ?_)
  obtain ⟨σ1, hσ1⟩ : ∃ z, z = ups σ 31 0 0 1 := ⟨_, rfl⟩
  rw [← hσ1] at hW
  refine k_if_eq (tgt := 25) hC dX8_tick_20 (by decide) (by omega) (fun c2 => absurd c2 (by omega)) (fun c2 => ?_)
  refine k_iconst hC dX8_tick_23 ?_
  have hW : WP Dg mcnt ad (mE cA ad (ups σ 31 0 0 1)) _ := (sw hW (by first | (rw [hσ1]; done) | (rw [hσ1]; exact ups_ups _ _ _ _ _ _) | (rw [hσ1, ups_ups, ups_ups]; done)))
  exact k_iret hX rfl hW hS dX8_tick_24
end M11
