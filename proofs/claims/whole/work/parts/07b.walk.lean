section M6
set_option maxHeartbeats 1000000 in
set_option maxRecDepth 100000 in
theorem n_thrown {l : Launch} {Dg : va_G} {cA : Nat → ClassId} {ad : Nat → Int → Nat} {oc : Nat → Nat} (hI : WI mcnt ad) (σ : St) : GI l yX8_thrown wsX8_thrown ({ frames := 0, cells := 0, slots := 0, locals := 0 } : Room) Dg cA mcnt ad oc (mE cA ad σ) [.ref (ad 0 0)] (σ 31 0 0) (mE cA ad σ) := by
  intro sz
  refine g_ent (cc := cX8_thrown) (maxL := 1) (ret := (some .int)) (by decide) rfl hI (Nat.le_of_ble_eq_true rfl) ?_
  intro pgm env s₀ m₀ bel mth cod hX hW hS hsz ls hl
  subst hsz
  have hC := hX.1
  have hx := hC.1
  have hb := hC.2.1
  have hts := hC.2.2.2.1
  have hl : lv_has ls 1 [(0, .ref (ad 0 0))] := hl
  have hin_X8 : ∀ w ∈ wsX80, w ∈ wsX8_thrown := by decide +kernel
  have hl_89 := hts (.fieldLink RX8 89 "KioskReelModel" "thrown" "I") (by decide +kernel)
  refine lv_aload_n hx hb dX8_thrown_0 rfl (lv_at hl 0 rfl) ?_
  refine mg_thrown_f hC hW hin_X8 hl_89 (v := σ 31 0 0) rfl dX8_thrown_1 ?_
  exact k_iret hX rfl hW hS dX8_thrown_4
set_option maxHeartbeats 1000000 in
set_option maxRecDepth 100000 in
theorem n_isIn {l : Launch} {Dg : va_G} {cA : Nat → ClassId} {ad : Nat → Int → Nat} {oc : Nat → Nat} (hI : WI mcnt ad) (σ : St) (v a b : Int) (h1 : -2147483648 ≤ v ∧ v < 2147483648) (h2 : -2147483648 ≤ a ∧ a < 2147483648) (h3 : -2147483648 ≤ b ∧ b < 2147483648) : GI l yX8_isIn wsX8_isIn ({ frames := 0, cells := 0, slots := 0, locals := 0 } : Room) Dg cA mcnt ad oc (mE cA ad σ) [.int (zi v), .int (zi a), .int (zi b)] (if a ≤ v ∧ v ≤ b then 1 else 0) (mE cA ad σ) := by
  intro sz
  refine g_ent (cc := cX8_isIn) (maxL := 3) (ret := (some .boolean)) (by decide) rfl hI (Nat.le_of_ble_eq_true rfl) ?_
  intro pgm env s₀ m₀ bel mth cod hX hW hS hsz ls hl
  subst hsz
  have hC := hX.1
  have hx := hC.1
  have hb := hC.2.1
  have hts := hC.2.2.2.1
  have hl : lv_has ls 3 [(0, .int (zi v)), (1, .int (zi a)), (2, .int (zi b))] := hl
  refine lv_iload_n hx hb dX8_isIn_0 rfl (lv_at hl 0 rfl) ?_
  refine lv_iload_n hx hb dX8_isIn_1 rfl (lv_at hl 1 rfl) ?_
  refine k_icmp_lt (tgt := 14) hC dX8_isIn_2 (by decide) (by omega) (fun c1 => ?_) (fun c1 => ?_)
  · refine k_iconst hC dX8_isIn_14 ?_
    exact k_zret hX (by omega) (by first | (rw [if_pos (by omega)]; done) | (rw [if_neg (by omega)]; done) | omega) hW hS dX8_isIn_15
  · refine lv_iload_n hx hb dX8_isIn_5 rfl (lv_at hl 0 rfl) ?_
    refine lv_iload_n hx hb dX8_isIn_6 rfl (lv_at hl 2 rfl) ?_
    refine k_icmp_gt (tgt := 14) hC dX8_isIn_7 (by decide) (by omega) (fun c2 => ?_) (fun c2 => ?_)
    · refine k_iconst hC dX8_isIn_14 ?_
      exact k_zret hX (by omega) (by first | (rw [if_pos (by omega)]; done) | (rw [if_neg (by omega)]; done) | omega) hW hS dX8_isIn_15
    · refine k_iconst hC dX8_isIn_10 ?_
      refine lv_goto (tgt := 15) hx hb dX8_isIn_11 (by decide) ?_
      exact k_zret hX (by omega) (by first | (rw [if_pos (by omega)]; done) | (rw [if_neg (by omega)]; done) | omega) hW hS dX8_isIn_15
set_option maxHeartbeats 1000000 in
set_option maxRecDepth 100000 in
theorem n_thr1 {l : Launch} {Dg : va_G} {cA : Nat → ClassId} {ad : Nat → Int → Nat} {oc : Nat → Nat} (hI : WI mcnt ad) (σ : St) (a : Int) (h2 : -2147483648 ≤ a ∧ a < 2147483648) : GI l yX8_isThrown wsX8_isThrown ({ frames := 0, cells := 0, slots := 0, locals := 0 } : Room) Dg cA mcnt ad oc (mE cA ad σ) [.ref (ad 0 0), .int (zi 1), .int (zi a)] 1 (mE cA ad (ups σ 31 0 0 a)) := by
  intro sz
  refine g_ent (cc := cX8_isThrown) (maxL := 3) (ret := (some .boolean)) (by decide) rfl hI (Nat.le_of_ble_eq_true rfl) ?_
  intro pgm env s₀ m₀ bel mth cod hX hW hS hsz ls hl
  subst hsz
  have hC := hX.1
  have hx := hC.1
  have hb := hC.2.1
  have hts := hC.2.2.2.1
  have hl : lv_has ls 3 [(0, .ref (ad 0 0)), (1, .int (zi 1)), (2, .int (zi a))] := hl
  have hin_X8 : ∀ w ∈ wsX80, w ∈ wsX8_isThrown := by decide +kernel
  have hl_89 := hts (.fieldLink RX8 89 "KioskReelModel" "thrown" "I") (by decide +kernel)
  refine lv_aload_n hx hb dX8_isThrown_0 rfl (lv_at hl 0 rfl) ?_
  refine lv_iload_n hx hb dX8_isThrown_1 rfl (lv_at hl 1 rfl) ?_
  refine k_if_eq (tgt := 9) hC dX8_isThrown_2 (by decide) (by omega) (fun c1 => absurd c1 (by omega)) (fun c1 => ?_)
  refine lv_iload_n hx hb dX8_isThrown_5 rfl (lv_at hl 2 rfl) ?_
  refine lv_goto (tgt := 10) hx hb dX8_isThrown_6 (by decide) ?_
  refine mp_thrown_f hC hW hin_X8 hl_89 hS dX8_isThrown_10 (fun H locs hW hS => ?_)
  obtain ⟨σ1, hσ1⟩ : ∃ z, z = ups σ 31 0 0 a := ⟨_, rfl⟩
  rw [← hσ1] at hW
  refine lv_iload_n hx hb dX8_isThrown_13 rfl (lv_at hl 1 rfl) ?_
  have hW : WP Dg mcnt ad (mE cA ad (ups σ 31 0 0 a)) _ := (sw hW (by rw [hσ1]))
  exact k_zret hX (by omega) rfl hW hS dX8_isThrown_14
set_option maxHeartbeats 1000000 in
set_option maxRecDepth 100000 in
theorem n_thr0 {l : Launch} {Dg : va_G} {cA : Nat → ClassId} {ad : Nat → Int → Nat} {oc : Nat → Nat} (hI : WI mcnt ad) (σ : St) (a : Int) (h2 : -2147483648 ≤ a ∧ a < 2147483648) : GI l yX8_isThrown wsX8_isThrown ({ frames := 0, cells := 0, slots := 0, locals := 0 } : Room) Dg cA mcnt ad oc (mE cA ad σ) [.ref (ad 0 0), .int (zi 0), .int (zi a)] 0 (mE cA ad (ups σ 31 0 0 0)) := by
  intro sz
  refine g_ent (cc := cX8_isThrown) (maxL := 3) (ret := (some .boolean)) (by decide) rfl hI (Nat.le_of_ble_eq_true rfl) ?_
  intro pgm env s₀ m₀ bel mth cod hX hW hS hsz ls hl
  subst hsz
  have hC := hX.1
  have hx := hC.1
  have hb := hC.2.1
  have hts := hC.2.2.2.1
  have hl : lv_has ls 3 [(0, .ref (ad 0 0)), (1, .int (zi 0)), (2, .int (zi a))] := hl
  have hin_X8 : ∀ w ∈ wsX80, w ∈ wsX8_isThrown := by decide +kernel
  have hl_89 := hts (.fieldLink RX8 89 "KioskReelModel" "thrown" "I") (by decide +kernel)
  refine lv_aload_n hx hb dX8_isThrown_0 rfl (lv_at hl 0 rfl) ?_
  refine lv_iload_n hx hb dX8_isThrown_1 rfl (lv_at hl 1 rfl) ?_
  refine k_if_eq (tgt := 9) hC dX8_isThrown_2 (by decide) (by omega) (fun c1 => ?_) (fun c1 => absurd c1 (by omega))
  refine k_iconst hC dX8_isThrown_9 ?_
  refine mp_thrown_f hC hW hin_X8 hl_89 hS dX8_isThrown_10 (fun H locs hW hS => ?_)
  obtain ⟨σ1, hσ1⟩ : ∃ z, z = ups σ 31 0 0 0 := ⟨_, rfl⟩
  rw [← hσ1] at hW
  refine lv_iload_n hx hb dX8_isThrown_13 rfl (lv_at hl 1 rfl) ?_
  have hW : WP Dg mcnt ad (mE cA ad (ups σ 31 0 0 0)) _ := (sw hW (by rw [hσ1]))
  exact k_zret hX (by omega) rfl hW hS dX8_isThrown_14
set_option maxHeartbeats 1000000 in
set_option maxRecDepth 100000 in
theorem n_apart {l : Launch} {Dg : va_G} {cA : Nat → ClassId} {ad : Nat → Int → Nat} {oc : Nat → Nat} (hI : WI mcnt ad) (σ : St) (a b : Int) (h1 : -100 ≤ a ∧ a ≤ 100) (h2 : -100 ≤ b ∧ b ≤ 100) : GI l yX8_apart wsX8_apart ({ frames := 0, cells := 0, slots := 0, locals := 0 } : Room) Dg cA mcnt ad oc (mE cA ad σ) [.int (zi a), .int (zi b)] (apart a b) (mE cA ad σ) := by
  intro sz
  refine g_ent (cc := cX8_apart) (maxL := 2) (ret := (some .int)) (by decide) rfl hI (Nat.le_of_ble_eq_true rfl) ?_
  intro pgm env s₀ m₀ bel mth cod hX hW hS hsz ls hl
  subst hsz
  have hC := hX.1
  have hx := hC.1
  have hb := hC.2.1
  have hts := hC.2.2.2.1
  have hl : lv_has ls 2 [(0, .int (zi a)), (1, .int (zi b))] := hl
  refine lv_iload_n hx hb dX8_apart_0 rfl (lv_at hl 0 rfl) ?_
  refine lv_iload_n hx hb dX8_apart_1 rfl (lv_at hl 1 rfl) ?_
  refine k_icmp_le (tgt := 11) hC dX8_apart_2 (by decide) (by omega) (fun c1 => ?_) (fun c1 => ?_)
  · refine lv_iload_n hx hb dX8_apart_11 rfl (lv_at hl 1 rfl) ?_
    refine lv_iload_n hx hb dX8_apart_12 rfl (lv_at hl 0 rfl) ?_
    refine k_isub hC dX8_apart_13 ?_
    exact k_iret hX (by unfold apart; omega) hW hS dX8_apart_14
  · refine lv_iload_n hx hb dX8_apart_5 rfl (lv_at hl 0 rfl) ?_
    refine lv_iload_n hx hb dX8_apart_6 rfl (lv_at hl 1 rfl) ?_
    refine k_isub hC dX8_apart_7 ?_
    refine lv_goto (tgt := 14) hx hb dX8_apart_8 (by decide) ?_
    exact k_iret hX (by unfold apart; omega) hW hS dX8_apart_14
set_option maxHeartbeats 1000000 in
set_option maxRecDepth 100000 in
theorem n_isList {l : Launch} {Dg : va_G} {cA : Nat → ClassId} {ad : Nat → Int → Nat} {oc : Nat → Nat} (hI : WI mcnt ad) (σ : St) (x : Int) (h2 : 0 ≤ σ 26 0 0 ∧ σ 26 0 0 ≤ 8) (hxr : -2147483648 ≤ x ∧ x < 2147483648) : GI l yX8_isList wsX8_isList ({ frames := 1, cells := 0, slots := 0, locals := 22 } : Room) Dg cA mcnt ad oc (mE cA ad σ) [.ref (ad 0 0), .int (zi x)] (if 0 ≤ x ∧ x < σ 26 0 0 then 1 else 0) (mE cA ad σ) := by
  intro sz
  refine g_ent (cc := cX8_isList) (maxL := 2) (ret := (some .boolean)) (by decide) rfl hI (Nat.le_of_ble_eq_true rfl) ?_
  intro pgm env s₀ m₀ bel mth cod hX hW hS hsz ls hl
  subst hsz
  have hC := hX.1
  have hx := hC.1
  have hb := hC.2.1
  have hts := hC.2.2.2.1
  have hl : lv_has ls 2 [(0, .ref (ad 0 0)), (1, .int (zi x))] := hl
  have hin_X8 : ∀ w ∈ wsX80, w ∈ wsX8_isList := by decide +kernel
  have hl_93 := hts (.fieldLink RX8 93 "KioskReelModel" "lists" "I") (by decide +kernel)
  refine lv_iload_n hx hb dX8_isList_0 rfl (lv_at hl 1 rfl) ?_
  refine k_iconst hC dX8_isList_1 ?_
  refine lv_aload_n hx hb dX8_isList_2 rfl (lv_at hl 0 rfl) ?_
  refine mg_lists_f hC hW hin_X8 hl_93 (v := σ 26 0 0) rfl dX8_isList_3 ?_
  refine k_iconst hC dX8_isList_6 ?_
  refine k_isub hC dX8_isList_7 ?_
  refine k_callSI (As := [.int (zi x), .int (zi 0), .int (zi ((σ 26 0 0) - 1))]) (rest := []) hX hl.1 (n_isIn hI σ x 0 ((σ 26 0 0) - 1) (by omega) (by omega) (by omega)) (cwS 3 hts gX8_isList_X8_isIn rfl rfl rfl (by decide +kernel) ⟨Nat.le_of_ble_eq_true rfl, Nat.le_of_ble_eq_true rfl⟩) hW hS ⟨Nat.zero_le _, Nat.zero_le _⟩ rfl rfl (Nat.le_of_ble_eq_true rfl) dX8_isList_8 (fun H locs hW hS _ _ => ?_)
  exact k_zret hX (by split <;> omega) (by split <;> split <;> omega) hW hS dX8_isList_11
set_option maxHeartbeats 1000000 in
set_option maxRecDepth 100000 in
theorem n_isKiosk {l : Launch} {Dg : va_G} {cA : Nat → ClassId} {ad : Nat → Int → Nat} {oc : Nat → Nat} (hI : WI mcnt ad) (σ : St) (x : Int) (h2 : 0 ≤ σ 27 0 0 ∧ σ 27 0 0 ≤ 6) (hxr : -2147483648 ≤ x ∧ x < 2147483648) : GI l yX8_isKiosk wsX8_isKiosk ({ frames := 1, cells := 0, slots := 0, locals := 22 } : Room) Dg cA mcnt ad oc (mE cA ad σ) [.ref (ad 0 0), .int (zi x)] (if 0 ≤ x ∧ x < σ 27 0 0 then 1 else 0) (mE cA ad σ) := by
  intro sz
  refine g_ent (cc := cX8_isKiosk) (maxL := 2) (ret := (some .boolean)) (by decide) rfl hI (Nat.le_of_ble_eq_true rfl) ?_
  intro pgm env s₀ m₀ bel mth cod hX hW hS hsz ls hl
  subst hsz
  have hC := hX.1
  have hx := hC.1
  have hb := hC.2.1
  have hts := hC.2.2.2.1
  have hl : lv_has ls 2 [(0, .ref (ad 0 0)), (1, .int (zi x))] := hl
  have hin_X8 : ∀ w ∈ wsX80, w ∈ wsX8_isKiosk := by decide +kernel
  have hl_100 := hts (.fieldLink RX8 100 "KioskReelModel" "kiosks" "I") (by decide +kernel)
  refine lv_iload_n hx hb dX8_isKiosk_0 rfl (lv_at hl 1 rfl) ?_
  refine k_iconst hC dX8_isKiosk_1 ?_
  refine lv_aload_n hx hb dX8_isKiosk_2 rfl (lv_at hl 0 rfl) ?_
  refine mg_kiosks_f hC hW hin_X8 hl_100 (v := σ 27 0 0) rfl dX8_isKiosk_3 ?_
  refine k_iconst hC dX8_isKiosk_6 ?_
  refine k_isub hC dX8_isKiosk_7 ?_
  refine k_callSI (As := [.int (zi x), .int (zi 0), .int (zi ((σ 27 0 0) - 1))]) (rest := []) hX hl.1 (n_isIn hI σ x 0 ((σ 27 0 0) - 1) (by omega) (by omega) (by omega)) (cwS 3 hts gX8_isKiosk_X8_isIn rfl rfl rfl (by decide +kernel) ⟨Nat.le_of_ble_eq_true rfl, Nat.le_of_ble_eq_true rfl⟩) hW hS ⟨Nat.zero_le _, Nat.zero_le _⟩ rfl rfl (Nat.le_of_ble_eq_true rfl) dX8_isKiosk_8 (fun H locs hW hS _ _ => ?_)
  exact k_zret hX (by split <;> omega) (by split <;> split <;> omega) hW hS dX8_isKiosk_11
set_option maxHeartbeats 1000000 in
set_option maxRecDepth 100000 in
theorem n_isDevice {l : Launch} {Dg : va_G} {cA : Nat → ClassId} {ad : Nat → Int → Nat} {oc : Nat → Nat} (hI : WI mcnt ad) (σ : St) (x : Int) (hxr : -2147483648 ≤ x ∧ x < 2147483648) : GI l yX8_isDevice wsX8_isDevice ({ frames := 1, cells := 0, slots := 0, locals := 22 } : Room) Dg cA mcnt ad oc (mE cA ad σ) [.int (zi x)] (if 0 ≤ x ∧ x < 6 then 1 else 0) (mE cA ad σ) := by
  intro sz
  refine g_ent (cc := cX8_isDevice) (maxL := 1) (ret := (some .boolean)) (by decide) rfl hI (Nat.le_of_ble_eq_true rfl) ?_
  intro pgm env s₀ m₀ bel mth cod hX hW hS hsz ls hl
  subst hsz
  have hC := hX.1
  have hx := hC.1
  have hb := hC.2.1
  have hts := hC.2.2.2.1
  have hl : lv_has ls 1 [(0, .int (zi x))] := hl
  refine lv_iload_n hx hb dX8_isDevice_0 rfl (lv_at hl 0 rfl) ?_
  refine k_iconst hC dX8_isDevice_1 ?_
  refine k_iconst hC dX8_isDevice_2 ?_
  refine k_callSI (As := [.int (zi x), .int (zi 0), .int (zi 5)]) (rest := []) hX hl.1 (n_isIn hI σ x 0 5 (by omega) (by omega) (by omega)) (cwS 3 hts gX8_isDevice_X8_isIn rfl rfl rfl (by decide +kernel) ⟨Nat.le_of_ble_eq_true rfl, Nat.le_of_ble_eq_true rfl⟩) hW hS ⟨Nat.zero_le _, Nat.zero_le _⟩ rfl rfl (Nat.le_of_ble_eq_true rfl) dX8_isDevice_3 (fun H locs hW hS _ _ => ?_)
  exact k_zret hX (by split <;> omega) (by split <;> split <;> omega) hW hS dX8_isDevice_6
set_option maxHeartbeats 1000000 in
set_option maxRecDepth 100000 in
theorem n_isKind {l : Launch} {Dg : va_G} {cA : Nat → ClassId} {ad : Nat → Int → Nat} {oc : Nat → Nat} (hI : WI mcnt ad) (σ : St) (k : Int) (hk : 0 ≤ k ∧ k < 65536) : GI l yX8_isKind wsX8_isKind ({ frames := 0, cells := 0, slots := 0, locals := 0 } : Room) Dg cA mcnt ad oc (mE cA ad σ) [.int (zi k)] (if mostN k = -1 then 0 else 1) (mE cA ad σ) := by
  intro sz
  refine g_ent (cc := cX8_isKind) (maxL := 1) (ret := (some .boolean)) (by decide) rfl hI (Nat.le_of_ble_eq_true rfl) ?_
  intro pgm env s₀ m₀ bel mth cod hX hW hS hsz ls hl
  subst hsz
  have hC := hX.1
  have hx := hC.1
  have hb := hC.2.1
  have hts := hC.2.2.2.1
  have hl : lv_has ls 1 [(0, .int (zi k))] := hl
  refine lv_iload_n hx hb dX8_isKind_0 rfl (lv_at hl 0 rfl) ?_
  refine k_bipush hC dX8_isKind_1 (by decide) ?_
  refine k_icmp_eq (tgt := 54) hC dX8_isKind_3 (by decide) (by omega) (fun c1 => ?_) (fun c1 => ?_)
  · refine k_iconst hC dX8_isKind_54 ?_
    refine lv_goto (tgt := 59) hx hb dX8_isKind_55 (by decide) ?_
    exact k_zret hX (by omega) (by unfold mostN; omega) hW hS dX8_isKind_59
  · refine lv_iload_n hx hb dX8_isKind_6 rfl (lv_at hl 0 rfl) ?_
    refine k_bipush hC dX8_isKind_7 (by decide) ?_
    refine k_icmp_eq (tgt := 54) hC dX8_isKind_9 (by decide) (by omega) (fun c2 => ?_) (fun c2 => ?_)
    · refine k_iconst hC dX8_isKind_54 ?_
      refine lv_goto (tgt := 59) hx hb dX8_isKind_55 (by decide) ?_
      exact k_zret hX (by omega) (by unfold mostN; omega) hW hS dX8_isKind_59
    · refine lv_iload_n hx hb dX8_isKind_12 rfl (lv_at hl 0 rfl) ?_
      refine k_bipush hC dX8_isKind_13 (by decide) ?_
      refine k_icmp_eq (tgt := 54) hC dX8_isKind_15 (by decide) (by omega) (fun c3 => ?_) (fun c3 => ?_)
      · refine k_iconst hC dX8_isKind_54 ?_
        refine lv_goto (tgt := 59) hx hb dX8_isKind_55 (by decide) ?_
        exact k_zret hX (by omega) (by unfold mostN; omega) hW hS dX8_isKind_59
      · refine lv_iload_n hx hb dX8_isKind_18 rfl (lv_at hl 0 rfl) ?_
        refine k_bipush hC dX8_isKind_19 (by decide) ?_
        refine k_icmp_eq (tgt := 54) hC dX8_isKind_21 (by decide) (by omega) (fun c4 => ?_) (fun c4 => ?_)
        · refine k_iconst hC dX8_isKind_54 ?_
          refine lv_goto (tgt := 59) hx hb dX8_isKind_55 (by decide) ?_
          exact k_zret hX (by omega) (by unfold mostN; omega) hW hS dX8_isKind_59
        · refine lv_iload_n hx hb dX8_isKind_24 rfl (lv_at hl 0 rfl) ?_
          refine k_bipush hC dX8_isKind_25 (by decide) ?_
          refine k_icmp_eq (tgt := 54) hC dX8_isKind_27 (by decide) (by omega) (fun c5 => ?_) (fun c5 => ?_)
          · refine k_iconst hC dX8_isKind_54 ?_
            refine lv_goto (tgt := 59) hx hb dX8_isKind_55 (by decide) ?_
            exact k_zret hX (by omega) (by unfold mostN; omega) hW hS dX8_isKind_59
          · refine lv_iload_n hx hb dX8_isKind_30 rfl (lv_at hl 0 rfl) ?_
            refine k_bipush hC dX8_isKind_31 (by decide) ?_
            refine k_icmp_eq (tgt := 54) hC dX8_isKind_33 (by decide) (by omega) (fun c6 => ?_) (fun c6 => ?_)
            · refine k_iconst hC dX8_isKind_54 ?_
              refine lv_goto (tgt := 59) hx hb dX8_isKind_55 (by decide) ?_
              exact k_zret hX (by omega) (by unfold mostN; omega) hW hS dX8_isKind_59
            · refine lv_iload_n hx hb dX8_isKind_36 rfl (lv_at hl 0 rfl) ?_
              refine k_bipush hC dX8_isKind_37 (by decide) ?_
              refine k_icmp_eq (tgt := 54) hC dX8_isKind_39 (by decide) (by omega) (fun c7 => ?_) (fun c7 => ?_)
              · refine k_iconst hC dX8_isKind_54 ?_
                refine lv_goto (tgt := 59) hx hb dX8_isKind_55 (by decide) ?_
                exact k_zret hX (by omega) (by unfold mostN; omega) hW hS dX8_isKind_59
              · refine lv_iload_n hx hb dX8_isKind_42 rfl (lv_at hl 0 rfl) ?_
                refine k_bipush hC dX8_isKind_43 (by decide) ?_
                refine k_icmp_eq (tgt := 54) hC dX8_isKind_45 (by decide) (by omega) (fun c8 => ?_) (fun c8 => ?_)
                · refine k_iconst hC dX8_isKind_54 ?_
                  refine lv_goto (tgt := 59) hx hb dX8_isKind_55 (by decide) ?_
                  exact k_zret hX (by omega) (by unfold mostN; omega) hW hS dX8_isKind_59
                · refine lv_iload_n hx hb dX8_isKind_48 rfl (lv_at hl 0 rfl) ?_
                  refine k_bipush hC dX8_isKind_49 (by decide) ?_
                  refine k_icmp_ne (tgt := 58) hC dX8_isKind_51 (by decide) (by omega) (fun c9 => ?_) (fun c9 => ?_)
                  · refine k_iconst hC dX8_isKind_58 ?_
                    exact k_zret hX (by omega) (by unfold mostN; omega) hW hS dX8_isKind_59
                  · refine k_iconst hC dX8_isKind_54 ?_
                    refine lv_goto (tgt := 59) hx hb dX8_isKind_55 (by decide) ?_
                    exact k_zret hX (by omega) (by unfold mostN; omega) hW hS dX8_isKind_59
set_option maxHeartbeats 1000000 in
set_option maxRecDepth 100000 in
theorem n_isNumber {l : Launch} {Dg : va_G} {cA : Nat → ClassId} {ad : Nat → Int → Nat} {oc : Nat → Nat} (hI : WI mcnt ad) (σ : St) (k n : Int) (hk : 0 ≤ k ∧ k < 65536) (hkm : mostN k ≠ -1) (hnr : -2147483648 ≤ n ∧ n < 2147483648) : GI l yX8_isNumber wsX8_isNumber ({ frames := 1, cells := 0, slots := 0, locals := 22 } : Room) Dg cA mcnt ad oc (mE cA ad σ) [.int (zi k), .int (zi n)] (if leastN k ≤ n ∧ n ≤ mostN k then 1 else 0) (mE cA ad σ) := by
  intro sz
  refine g_ent (cc := cX8_isNumber) (maxL := 4) (ret := (some .boolean)) (by decide) rfl hI (Nat.le_of_ble_eq_true rfl) ?_
  intro pgm env s₀ m₀ bel mth cod hX hW hS hsz ls hl
  subst hsz
  have hC := hX.1
  have hx := hC.1
  have hb := hC.2.1
  have hts := hC.2.2.2.1
  have hl : lv_has ls 4 [(0, .int (zi k)), (1, .int (zi n))] := hl
  refine lv_iload_n hx hb dX8_isNumber_0 rfl (lv_at hl 0 rfl) ?_
  refine k_bipush hC dX8_isNumber_1 (by decide) ?_
  refine k_icmp_ne (tgt := 10) hC dX8_isNumber_3 (by decide) (by omega) (fun c1 => ?_) (fun c1 => ?_)
  · refine k_iconst hC dX8_isNumber_10 ?_
    refine lv_istore_n (lv' := [(2, .int (zi 0)), (0, .int (zi k)), (1, .int (zi n))]) hx hb dX8_isNumber_11 rfl hl (by decide) rfl (fun ls hl => ?_)
    refine lv_iload_n hx hb dX8_isNumber_12 rfl (lv_at hl 1 rfl) ?_
    refine k_bipush hC dX8_isNumber_13 (by decide) ?_
    refine k_icmp_eq (tgt := 24) hC dX8_isNumber_15 (by decide) (by omega) (fun c2 => ?_) (fun c2 => ?_)
    · refine k_bipush hC dX8_isNumber_24 (by decide) ?_
      refine lv_goto (tgt := 58) hx hb dX8_isNumber_26 (by decide) ?_
      refine lv_istore_n (lv' := [(3, .int (zi 99)), (2, .int (zi 0)), (0, .int (zi k)), (1, .int (zi n))]) hx hb dX8_isNumber_58 rfl hl (by decide) rfl (fun ls hl => ?_)
      refine lv_iload_n hx hb dX8_isNumber_59 rfl (lv_at hl 3 rfl) ?_
      refine lv_iload_n hx hb dX8_isNumber_60 rfl (lv_at hl 1 rfl) ?_
      refine lv_iload_n hx hb dX8_isNumber_61 rfl (lv_at hl 0 rfl) ?_
      refine k_callSI (As := [.int (zi n), .int (zi 0), .int (zi 99)]) (rest := []) hX hl.1 (n_isIn hI σ n 0 99 (by omega) (by omega) (by omega)) (cwS 3 hts gX8_isNumber_X8_isIn rfl rfl rfl (by decide +kernel) ⟨Nat.le_of_ble_eq_true rfl, Nat.le_of_ble_eq_true rfl⟩) hW hS ⟨Nat.zero_le _, Nat.zero_le _⟩ rfl rfl (Nat.le_of_ble_eq_true rfl) dX8_isNumber_62 (fun H locs hW hS _ _ => ?_)
      exact k_zret hX (by split <;> omega) (by have hq := hkm; unfold mostN at hq; unfold leastN mostN; split <;> (try split) <;> first | rfl | omega) hW hS dX8_isNumber_65
    · refine lv_iload_n hx hb dX8_isNumber_18 rfl (lv_at hl 1 rfl) ?_
      refine k_bipush hC dX8_isNumber_19 (by decide) ?_
      refine k_icmp_ne (tgt := 29) hC dX8_isNumber_21 (by decide) (by omega) (fun c3 => ?_) (fun c3 => ?_)
      · refine lv_iload_n hx hb dX8_isNumber_29 rfl (lv_at hl 1 rfl) ?_
        refine k_bipush hC dX8_isNumber_30 (by decide) ?_
        refine k_icmp_eq (tgt := 41) hC dX8_isNumber_32 (by decide) (by omega) (fun c4 => ?_) (fun c4 => ?_)
        · refine k_iconst hC dX8_isNumber_41 ?_
          refine lv_goto (tgt := 58) hx hb dX8_isNumber_42 (by decide) ?_
          refine lv_istore_n (lv' := [(3, .int (zi 5)), (2, .int (zi 0)), (0, .int (zi k)), (1, .int (zi n))]) hx hb dX8_isNumber_58 rfl hl (by decide) rfl (fun ls hl => ?_)
          refine lv_iload_n hx hb dX8_isNumber_59 rfl (lv_at hl 3 rfl) ?_
          refine lv_iload_n hx hb dX8_isNumber_60 rfl (lv_at hl 1 rfl) ?_
          refine lv_iload_n hx hb dX8_isNumber_61 rfl (lv_at hl 0 rfl) ?_
          refine k_callSI (As := [.int (zi n), .int (zi 0), .int (zi 5)]) (rest := []) hX hl.1 (n_isIn hI σ n 0 5 (by omega) (by omega) (by omega)) (cwS 3 hts gX8_isNumber_X8_isIn rfl rfl rfl (by decide +kernel) ⟨Nat.le_of_ble_eq_true rfl, Nat.le_of_ble_eq_true rfl⟩) hW hS ⟨Nat.zero_le _, Nat.zero_le _⟩ rfl rfl (Nat.le_of_ble_eq_true rfl) dX8_isNumber_62 (fun H locs hW hS _ _ => ?_)
          exact k_zret hX (by split <;> omega) (by have hq := hkm; unfold mostN at hq; unfold leastN mostN; split <;> (try split) <;> first | rfl | omega) hW hS dX8_isNumber_65
        · refine lv_iload_n hx hb dX8_isNumber_35 rfl (lv_at hl 1 rfl) ?_
          refine k_bipush hC dX8_isNumber_36 (by decide) ?_
          refine k_icmp_ne (tgt := 45) hC dX8_isNumber_38 (by decide) (by omega) (fun c5 => ?_) (fun c5 => ?_)
          · refine lv_iload_n hx hb dX8_isNumber_45 rfl (lv_at hl 1 rfl) ?_
            refine k_bipush hC dX8_isNumber_46 (by decide) ?_
            refine k_icmp_ne (tgt := 56) hC dX8_isNumber_48 (by decide) (by omega) (fun c6 => ?_) (fun c6 => ?_)
            · refine k_bipush hC dX8_isNumber_56 (by decide) ?_
              refine lv_istore_n (lv' := [(3, .int (zi 20)), (2, .int (zi 0)), (0, .int (zi k)), (1, .int (zi n))]) hx hb dX8_isNumber_58 rfl hl (by decide) rfl (fun ls hl => ?_)
              refine lv_iload_n hx hb dX8_isNumber_59 rfl (lv_at hl 3 rfl) ?_
              refine lv_iload_n hx hb dX8_isNumber_60 rfl (lv_at hl 1 rfl) ?_
              refine lv_iload_n hx hb dX8_isNumber_61 rfl (lv_at hl 0 rfl) ?_
              refine k_callSI (As := [.int (zi n), .int (zi 0), .int (zi 20)]) (rest := []) hX hl.1 (n_isIn hI σ n 0 20 (by omega) (by omega) (by omega)) (cwS 3 hts gX8_isNumber_X8_isIn rfl rfl rfl (by decide +kernel) ⟨Nat.le_of_ble_eq_true rfl, Nat.le_of_ble_eq_true rfl⟩) hW hS ⟨Nat.zero_le _, Nat.zero_le _⟩ rfl rfl (Nat.le_of_ble_eq_true rfl) dX8_isNumber_62 (fun H locs hW hS _ _ => ?_)
              exact k_zret hX (by split <;> omega) (by have hq := hkm; unfold mostN at hq; unfold leastN mostN; split <;> (try split) <;> first | rfl | omega) hW hS dX8_isNumber_65
            · refine k_bipush hC dX8_isNumber_51 (by decide) ?_
              refine lv_goto (tgt := 58) hx hb dX8_isNumber_53 (by decide) ?_
              refine lv_istore_n (lv' := [(3, .int (zi 7)), (2, .int (zi 0)), (0, .int (zi k)), (1, .int (zi n))]) hx hb dX8_isNumber_58 rfl hl (by decide) rfl (fun ls hl => ?_)
              refine lv_iload_n hx hb dX8_isNumber_59 rfl (lv_at hl 3 rfl) ?_
              refine lv_iload_n hx hb dX8_isNumber_60 rfl (lv_at hl 1 rfl) ?_
              refine lv_iload_n hx hb dX8_isNumber_61 rfl (lv_at hl 0 rfl) ?_
              refine k_callSI (As := [.int (zi n), .int (zi 0), .int (zi 7)]) (rest := []) hX hl.1 (n_isIn hI σ n 0 7 (by omega) (by omega) (by omega)) (cwS 3 hts gX8_isNumber_X8_isIn rfl rfl rfl (by decide +kernel) ⟨Nat.le_of_ble_eq_true rfl, Nat.le_of_ble_eq_true rfl⟩) hW hS ⟨Nat.zero_le _, Nat.zero_le _⟩ rfl rfl (Nat.le_of_ble_eq_true rfl) dX8_isNumber_62 (fun H locs hW hS _ _ => ?_)
              exact k_zret hX (by split <;> omega) (by have hq := hkm; unfold mostN at hq; unfold leastN mostN; split <;> (try split) <;> first | rfl | omega) hW hS dX8_isNumber_65
          · refine k_iconst hC dX8_isNumber_41 ?_
            refine lv_goto (tgt := 58) hx hb dX8_isNumber_42 (by decide) ?_
            refine lv_istore_n (lv' := [(3, .int (zi 5)), (2, .int (zi 0)), (0, .int (zi k)), (1, .int (zi n))]) hx hb dX8_isNumber_58 rfl hl (by decide) rfl (fun ls hl => ?_)
            refine lv_iload_n hx hb dX8_isNumber_59 rfl (lv_at hl 3 rfl) ?_
            refine lv_iload_n hx hb dX8_isNumber_60 rfl (lv_at hl 1 rfl) ?_
            refine lv_iload_n hx hb dX8_isNumber_61 rfl (lv_at hl 0 rfl) ?_
            refine k_callSI (As := [.int (zi n), .int (zi 0), .int (zi 5)]) (rest := []) hX hl.1 (n_isIn hI σ n 0 5 (by omega) (by omega) (by omega)) (cwS 3 hts gX8_isNumber_X8_isIn rfl rfl rfl (by decide +kernel) ⟨Nat.le_of_ble_eq_true rfl, Nat.le_of_ble_eq_true rfl⟩) hW hS ⟨Nat.zero_le _, Nat.zero_le _⟩ rfl rfl (Nat.le_of_ble_eq_true rfl) dX8_isNumber_62 (fun H locs hW hS _ _ => ?_)
            exact k_zret hX (by split <;> omega) (by have hq := hkm; unfold mostN at hq; unfold leastN mostN; split <;> (try split) <;> first | rfl | omega) hW hS dX8_isNumber_65
      · refine k_bipush hC dX8_isNumber_24 (by decide) ?_
        refine lv_goto (tgt := 58) hx hb dX8_isNumber_26 (by decide) ?_
        refine lv_istore_n (lv' := [(3, .int (zi 99)), (2, .int (zi 0)), (0, .int (zi k)), (1, .int (zi n))]) hx hb dX8_isNumber_58 rfl hl (by decide) rfl (fun ls hl => ?_)
        refine lv_iload_n hx hb dX8_isNumber_59 rfl (lv_at hl 3 rfl) ?_
        refine lv_iload_n hx hb dX8_isNumber_60 rfl (lv_at hl 1 rfl) ?_
        refine lv_iload_n hx hb dX8_isNumber_61 rfl (lv_at hl 0 rfl) ?_
        refine k_callSI (As := [.int (zi n), .int (zi 0), .int (zi 99)]) (rest := []) hX hl.1 (n_isIn hI σ n 0 99 (by omega) (by omega) (by omega)) (cwS 3 hts gX8_isNumber_X8_isIn rfl rfl rfl (by decide +kernel) ⟨Nat.le_of_ble_eq_true rfl, Nat.le_of_ble_eq_true rfl⟩) hW hS ⟨Nat.zero_le _, Nat.zero_le _⟩ rfl rfl (Nat.le_of_ble_eq_true rfl) dX8_isNumber_62 (fun H locs hW hS _ _ => ?_)
        exact k_zret hX (by split <;> omega) (by have hq := hkm; unfold mostN at hq; unfold leastN mostN; split <;> (try split) <;> first | rfl | omega) hW hS dX8_isNumber_65
  · refine k_iconst hC dX8_isNumber_6 ?_
    refine lv_goto (tgt := 11) hx hb dX8_isNumber_7 (by decide) ?_
    refine lv_istore_n (lv' := [(2, .int (zi 1)), (0, .int (zi k)), (1, .int (zi n))]) hx hb dX8_isNumber_11 rfl hl (by decide) rfl (fun ls hl => ?_)
    refine lv_iload_n hx hb dX8_isNumber_12 rfl (lv_at hl 1 rfl) ?_
    refine k_bipush hC dX8_isNumber_13 (by decide) ?_
    refine k_icmp_eq (tgt := 24) hC dX8_isNumber_15 (by decide) (by omega) (fun c7 => ?_) (fun c7 => ?_)
    · refine k_bipush hC dX8_isNumber_24 (by decide) ?_
      refine lv_goto (tgt := 58) hx hb dX8_isNumber_26 (by decide) ?_
      refine lv_istore_n (lv' := [(3, .int (zi 99)), (2, .int (zi 1)), (0, .int (zi k)), (1, .int (zi n))]) hx hb dX8_isNumber_58 rfl hl (by decide) rfl (fun ls hl => ?_)
      refine lv_iload_n hx hb dX8_isNumber_59 rfl (lv_at hl 3 rfl) ?_
      refine lv_iload_n hx hb dX8_isNumber_60 rfl (lv_at hl 1 rfl) ?_
      refine lv_iload_n hx hb dX8_isNumber_61 rfl (lv_at hl 0 rfl) ?_
      refine k_callSI (As := [.int (zi n), .int (zi 1), .int (zi 99)]) (rest := []) hX hl.1 (n_isIn hI σ n 1 99 (by omega) (by omega) (by omega)) (cwS 3 hts gX8_isNumber_X8_isIn rfl rfl rfl (by decide +kernel) ⟨Nat.le_of_ble_eq_true rfl, Nat.le_of_ble_eq_true rfl⟩) hW hS ⟨Nat.zero_le _, Nat.zero_le _⟩ rfl rfl (Nat.le_of_ble_eq_true rfl) dX8_isNumber_62 (fun H locs hW hS _ _ => ?_)
      exact k_zret hX (by split <;> omega) (by have hq := hkm; unfold mostN at hq; unfold leastN mostN; split <;> (try split) <;> first | rfl | omega) hW hS dX8_isNumber_65
    · refine lv_iload_n hx hb dX8_isNumber_18 rfl (lv_at hl 1 rfl) ?_
      refine k_bipush hC dX8_isNumber_19 (by decide) ?_
      refine k_icmp_ne (tgt := 29) hC dX8_isNumber_21 (by decide) (by omega) (fun c8 => ?_) (fun c8 => ?_)
      · refine lv_iload_n hx hb dX8_isNumber_29 rfl (lv_at hl 1 rfl) ?_
        refine k_bipush hC dX8_isNumber_30 (by decide) ?_
        refine k_icmp_eq (tgt := 41) hC dX8_isNumber_32 (by decide) (by omega) (fun c9 => ?_) (fun c9 => ?_)
        · refine k_iconst hC dX8_isNumber_41 ?_
          refine lv_goto (tgt := 58) hx hb dX8_isNumber_42 (by decide) ?_
          refine lv_istore_n (lv' := [(3, .int (zi 5)), (2, .int (zi 1)), (0, .int (zi k)), (1, .int (zi n))]) hx hb dX8_isNumber_58 rfl hl (by decide) rfl (fun ls hl => ?_)
          refine lv_iload_n hx hb dX8_isNumber_59 rfl (lv_at hl 3 rfl) ?_
          refine lv_iload_n hx hb dX8_isNumber_60 rfl (lv_at hl 1 rfl) ?_
          refine lv_iload_n hx hb dX8_isNumber_61 rfl (lv_at hl 0 rfl) ?_
          refine k_callSI (As := [.int (zi n), .int (zi 1), .int (zi 5)]) (rest := []) hX hl.1 (n_isIn hI σ n 1 5 (by omega) (by omega) (by omega)) (cwS 3 hts gX8_isNumber_X8_isIn rfl rfl rfl (by decide +kernel) ⟨Nat.le_of_ble_eq_true rfl, Nat.le_of_ble_eq_true rfl⟩) hW hS ⟨Nat.zero_le _, Nat.zero_le _⟩ rfl rfl (Nat.le_of_ble_eq_true rfl) dX8_isNumber_62 (fun H locs hW hS _ _ => ?_)
          exact k_zret hX (by split <;> omega) (by have hq := hkm; unfold mostN at hq; unfold leastN mostN; split <;> (try split) <;> first | rfl | omega) hW hS dX8_isNumber_65
        · refine lv_iload_n hx hb dX8_isNumber_35 rfl (lv_at hl 1 rfl) ?_
          refine k_bipush hC dX8_isNumber_36 (by decide) ?_
          refine k_icmp_ne (tgt := 45) hC dX8_isNumber_38 (by decide) (by omega) (fun c10 => ?_) (fun c10 => ?_)
          · refine lv_iload_n hx hb dX8_isNumber_45 rfl (lv_at hl 1 rfl) ?_
            refine k_bipush hC dX8_isNumber_46 (by decide) ?_
            refine k_icmp_ne (tgt := 56) hC dX8_isNumber_48 (by decide) (by omega) (fun c11 => ?_) (fun c11 => ?_)
            · refine k_bipush hC dX8_isNumber_56 (by decide) ?_
              refine lv_istore_n (lv' := [(3, .int (zi 20)), (2, .int (zi 1)), (0, .int (zi k)), (1, .int (zi n))]) hx hb dX8_isNumber_58 rfl hl (by decide) rfl (fun ls hl => ?_)
              refine lv_iload_n hx hb dX8_isNumber_59 rfl (lv_at hl 3 rfl) ?_
              refine lv_iload_n hx hb dX8_isNumber_60 rfl (lv_at hl 1 rfl) ?_
              refine lv_iload_n hx hb dX8_isNumber_61 rfl (lv_at hl 0 rfl) ?_
              refine k_callSI (As := [.int (zi n), .int (zi 1), .int (zi 20)]) (rest := []) hX hl.1 (n_isIn hI σ n 1 20 (by omega) (by omega) (by omega)) (cwS 3 hts gX8_isNumber_X8_isIn rfl rfl rfl (by decide +kernel) ⟨Nat.le_of_ble_eq_true rfl, Nat.le_of_ble_eq_true rfl⟩) hW hS ⟨Nat.zero_le _, Nat.zero_le _⟩ rfl rfl (Nat.le_of_ble_eq_true rfl) dX8_isNumber_62 (fun H locs hW hS _ _ => ?_)
              exact k_zret hX (by split <;> omega) (by have hq := hkm; unfold mostN at hq; unfold leastN mostN; split <;> (try split) <;> first | rfl | omega) hW hS dX8_isNumber_65
            · refine k_bipush hC dX8_isNumber_51 (by decide) ?_
              refine lv_goto (tgt := 58) hx hb dX8_isNumber_53 (by decide) ?_
              refine lv_istore_n (lv' := [(3, .int (zi 7)), (2, .int (zi 1)), (0, .int (zi k)), (1, .int (zi n))]) hx hb dX8_isNumber_58 rfl hl (by decide) rfl (fun ls hl => ?_)
              refine lv_iload_n hx hb dX8_isNumber_59 rfl (lv_at hl 3 rfl) ?_
              refine lv_iload_n hx hb dX8_isNumber_60 rfl (lv_at hl 1 rfl) ?_
              refine lv_iload_n hx hb dX8_isNumber_61 rfl (lv_at hl 0 rfl) ?_
              refine k_callSI (As := [.int (zi n), .int (zi 1), .int (zi 7)]) (rest := []) hX hl.1 (n_isIn hI σ n 1 7 (by omega) (by omega) (by omega)) (cwS 3 hts gX8_isNumber_X8_isIn rfl rfl rfl (by decide +kernel) ⟨Nat.le_of_ble_eq_true rfl, Nat.le_of_ble_eq_true rfl⟩) hW hS ⟨Nat.zero_le _, Nat.zero_le _⟩ rfl rfl (Nat.le_of_ble_eq_true rfl) dX8_isNumber_62 (fun H locs hW hS _ _ => ?_)
              exact k_zret hX (by split <;> omega) (by have hq := hkm; unfold mostN at hq; unfold leastN mostN; split <;> (try split) <;> first | rfl | omega) hW hS dX8_isNumber_65
          · refine k_iconst hC dX8_isNumber_41 ?_
            refine lv_goto (tgt := 58) hx hb dX8_isNumber_42 (by decide) ?_
            refine lv_istore_n (lv' := [(3, .int (zi 5)), (2, .int (zi 1)), (0, .int (zi k)), (1, .int (zi n))]) hx hb dX8_isNumber_58 rfl hl (by decide) rfl (fun ls hl => ?_)
            refine lv_iload_n hx hb dX8_isNumber_59 rfl (lv_at hl 3 rfl) ?_
            refine lv_iload_n hx hb dX8_isNumber_60 rfl (lv_at hl 1 rfl) ?_
            refine lv_iload_n hx hb dX8_isNumber_61 rfl (lv_at hl 0 rfl) ?_
            refine k_callSI (As := [.int (zi n), .int (zi 1), .int (zi 5)]) (rest := []) hX hl.1 (n_isIn hI σ n 1 5 (by omega) (by omega) (by omega)) (cwS 3 hts gX8_isNumber_X8_isIn rfl rfl rfl (by decide +kernel) ⟨Nat.le_of_ble_eq_true rfl, Nat.le_of_ble_eq_true rfl⟩) hW hS ⟨Nat.zero_le _, Nat.zero_le _⟩ rfl rfl (Nat.le_of_ble_eq_true rfl) dX8_isNumber_62 (fun H locs hW hS _ _ => ?_)
            exact k_zret hX (by split <;> omega) (by have hq := hkm; unfold mostN at hq; unfold leastN mostN; split <;> (try split) <;> first | rfl | omega) hW hS dX8_isNumber_65
      · refine k_bipush hC dX8_isNumber_24 (by decide) ?_
        refine lv_goto (tgt := 58) hx hb dX8_isNumber_26 (by decide) ?_
        refine lv_istore_n (lv' := [(3, .int (zi 99)), (2, .int (zi 1)), (0, .int (zi k)), (1, .int (zi n))]) hx hb dX8_isNumber_58 rfl hl (by decide) rfl (fun ls hl => ?_)
        refine lv_iload_n hx hb dX8_isNumber_59 rfl (lv_at hl 3 rfl) ?_
        refine lv_iload_n hx hb dX8_isNumber_60 rfl (lv_at hl 1 rfl) ?_
        refine lv_iload_n hx hb dX8_isNumber_61 rfl (lv_at hl 0 rfl) ?_
        refine k_callSI (As := [.int (zi n), .int (zi 1), .int (zi 99)]) (rest := []) hX hl.1 (n_isIn hI σ n 1 99 (by omega) (by omega) (by omega)) (cwS 3 hts gX8_isNumber_X8_isIn rfl rfl rfl (by decide +kernel) ⟨Nat.le_of_ble_eq_true rfl, Nat.le_of_ble_eq_true rfl⟩) hW hS ⟨Nat.zero_le _, Nat.zero_le _⟩ rfl rfl (Nat.le_of_ble_eq_true rfl) dX8_isNumber_62 (fun H locs hW hS _ _ => ?_)
        exact k_zret hX (by split <;> omega) (by have hq := hkm; unfold mostN at hq; unfold leastN mostN; split <;> (try split) <;> first | rfl | omega) hW hS dX8_isNumber_65
set_option maxHeartbeats 1000000 in
set_option maxRecDepth 100000 in
theorem n_copies {l : Launch} {Dg : va_G} {cA : Nat → ClassId} {ad : Nat → Int → Nat} {oc : Nat → Nat} (hI : WI mcnt ad) (σ : St) (r p u : Int) (hr : 0 ≤ r ∧ r < 8) (hp : 0 ≤ p ∧ p < 6) (hh : 0 ≤ u ∧ u < 4) (h3 : 0 ≤ σ 3 r 0 ∧ σ 3 r 0 ≤ 20) : GV l yX8_copies wsX8_copies ({ frames := 0, cells := 0, slots := 0, locals := 0 } : Room) Dg cA mcnt ad oc (mE cA ad σ) [.ref (ad 0 0), .int (zi r), .int (zi (4 * p + u))] (mE cA ad (ups (ups (fCopy σ (8 + (4 * p + u)) r) 4 p u 0) 7 p u r)) := by
  intro sz
  refine g_ent (cc := cX8_copies) (maxL := 4) (ret := none) (by decide) rfl hI (Nat.le_of_ble_eq_true rfl) ?_
  intro pgm env s₀ m₀ bel mth cod hX hW hS hsz ls hl
  subst hsz
  have hC := hX.1
  have hx := hC.1
  have hb := hC.2.1
  have hts := hC.2.2.2.1
  have hl : lv_has ls 4 [(0, .ref (ad 0 0)), (1, .int (zi r)), (2, .int (zi (4 * p + u)))] := hl
  have hin_X8 : ∀ w ∈ wsX80, w ∈ wsX8_copies := by decide +kernel
  have hl_7 := hts (.fieldLink RX8 7 "KioskReelModel" "many" "[I") (by decide +kernel)
  have hl_13 := hts (.fieldLink RX8 13 "KioskReelModel" "kind" "[I") (by decide +kernel)
  have hl_16 := hts (.fieldLink RX8 16 "KioskReelModel" "number" "[I") (by decide +kernel)
  have hl_19 := hts (.fieldLink RX8 19 "KioskReelModel" "pileMany" "[I") (by decide +kernel)
  have hl_22 := hts (.fieldLink RX8 22 "KioskReelModel" "pileKind" "[I") (by decide +kernel)
  have hl_25 := hts (.fieldLink RX8 25 "KioskReelModel" "pileNumber" "[I") (by decide +kernel)
  have hl_28 := hts (.fieldLink RX8 28 "KioskReelModel" "pileList" "[I") (by decide +kernel)
  have hl_31 := hts (.fieldLink RX8 31 "KioskReelModel" "pileNext" "[I") (by decide +kernel)
  refine lv_aload_n hx hb dX8_copies_0 rfl (lv_at hl 0 rfl) ?_
  refine mg_pileList hC hW hin_X8 hl_28 dX8_copies_1 ?_
  refine lv_iload_n hx hb dX8_copies_4 rfl (lv_at hl 2 rfl) ?_
  refine lv_iload_n hx hb dX8_copies_5 rfl (lv_at hl 1 rfl) ?_
  refine ms_pileList hC hW p u (by omega) (by omega) (by omega) hS dX8_copies_6 (fun H locs hW hS => ?_)
  obtain ⟨σ1, hσ1⟩ : ∃ z, z = ups σ 7 p u r := ⟨_, rfl⟩
  rw [← hσ1] at hW
  refine lv_aload_n hx hb dX8_copies_7 rfl (lv_at hl 0 rfl) ?_
  refine mg_pileNext hC hW hin_X8 hl_31 dX8_copies_8 ?_
  refine lv_iload_n hx hb dX8_copies_11 rfl (lv_at hl 2 rfl) ?_
  refine k_iconst hC dX8_copies_12 ?_
  refine ms_pileNext hC hW p u (by omega) (by omega) (by omega) hS dX8_copies_13 (fun H locs hW hS => ?_)
  obtain ⟨σ2, hσ2⟩ : ∃ z, z = ups σ1 4 p u 0 := ⟨_, rfl⟩
  rw [← hσ2] at hW
  refine lv_aload_n hx hb dX8_copies_14 rfl (lv_at hl 0 rfl) ?_
  refine mg_pileMany hC hW hin_X8 hl_19 dX8_copies_15 ?_
  refine lv_iload_n hx hb dX8_copies_18 rfl (lv_at hl 2 rfl) ?_
  refine lv_aload_n hx hb dX8_copies_19 rfl (lv_at hl 0 rfl) ?_
  refine mg_many hC hW hin_X8 hl_7 dX8_copies_20 ?_
  refine lv_iload_n hx hb dX8_copies_23 rfl (lv_at hl 1 rfl) ?_
  refine ma_many hC hW (by omega) (v := σ 3 r 0) (by rw [hσ2, ups_t _ (by decide), hσ1, ups_t _ (by decide)]) dX8_copies_24 ?_
  refine ms_pileMany hC hW (by omega) hS dX8_copies_25 (fun H locs hW hS => ?_)
  obtain ⟨σ3, hσ3⟩ : ∃ z, z = ups σ2 3 (8 + (4 * p + u)) 0 (σ 3 r 0) := ⟨_, rfl⟩
  rw [← hσ3] at hW
  refine k_iconst hC dX8_copies_26 ?_
  refine lv_istore_n (lv' := [(3, .int (zi 0)), (0, .ref (ad 0 0)), (1, .int (zi r)), (2, .int (zi (4 * p + u)))]) hx hb dX8_copies_27 rfl hl (by decide) rfl (fun ls hl => ?_)
  have loop_28 : ∀ (fuel : Nat) (m : Int), σ 3 r 0 - m < (fuel : Int) → (0 ≤ m) → (m ≤ σ 3 r 0) → ∀ (H : Heap) (locs : List Loc), WP Dg mcnt ad (mE cA ad (cpP (ups (ups (ups σ 7 p u r) 4 p u 0) 3 (8 + (4 * p + u)) 0 (σ 3 r 0)) (8 + (4 * p + u)) r m)) H → va_S (WA mcnt ad s₀.heap.size) s₀.heap H locs → ∀ ls : Array Slot, lv_has ls 4 [(3, .int (zi m)), (0, .ref (ad 0 0)), (1, .int (zi r)), (2, .int (zi (4 * p + u)))] → W pgm l env ({ frames := 0, cells := 0, slots := 0, locals := 0 } : Room) s₀ m₀ ([.ref (ad 0 0), .int (zi r), .int (zi (4 * p + u))] : List Value).toArray bel mth cod H locs 0 0 (MQ bel (va_Qv (fun _ : Unit => True) (gB Dg mcnt ad (mE cA ad (ups (ups (fCopy σ (8 + (4 * p + u)) r) 4 p u 0) 7 p u r))) (WA mcnt ad s₀.heap.size)) ([.ref (ad 0 0), .int (zi r), .int (zi (4 * p + u))] : List Value).toArray s₀ 0 0 (WA mcnt ad s₀.heap.size)) (F0 m₀ 28 ls []) := by
    intro fuel
    induction fuel with
    | zero => intro m hn i1 i2; exact absurd hn (by omega)
    | succ fuel ih_28 =>
      intro m hn i1 i2 H locs hW hS ls hl
      obtain ⟨σ4, hσ4⟩ : ∃ z, z = cpP (ups (ups (ups σ 7 p u r) 4 p u 0) 3 (8 + (4 * p + u)) 0 (σ 3 r 0)) (8 + (4 * p + u)) r m := ⟨_, rfl⟩
      rw [← hσ4] at hW
      refine lv_iload_n hx hb dX8_copies_28 rfl (lv_at hl 0 rfl) ?_
      refine lv_aload_n hx hb dX8_copies_29 rfl (lv_at hl 1 rfl) ?_
      refine mg_many hC hW hin_X8 hl_7 dX8_copies_30 ?_
      refine lv_iload_n hx hb dX8_copies_33 rfl (lv_at hl 2 rfl) ?_
      refine ma_many hC hW (by omega) (v := σ 3 r 0) (by rw [hσ4, cpP_o _ _ _ _ (by decide) (by decide), ups_i _ _ _ (by omega), ups_t _ (by decide), ups_t _ (by decide)]) dX8_copies_34 ?_
      refine k_icmp_ge (tgt := 88) hC dX8_copies_35 (by decide) (by omega) (fun c1 => ?_) (fun c1 => ?_)
      · have hW : WP Dg mcnt ad (mE cA ad (ups (ups (fCopy σ (8 + (4 * p + u)) r) 4 p u 0) 7 p u r)) _ := (sw hW (by rw [hσ4, show m = σ 3 r 0 by omega, copies_end]; rfl))
        exact k_vret hX hW hS dX8_copies_88
      · refine lv_aload_n hx hb dX8_copies_38 rfl (lv_at hl 1 rfl) ?_
        refine mg_pileKind hC hW hin_X8 hl_22 dX8_copies_39 ?_
        refine k_bipush hC dX8_copies_42 (by decide) ?_
        refine lv_iload_n hx hb dX8_copies_44 rfl (lv_at hl 3 rfl) ?_
        refine k_imul hC dX8_copies_45 ?_
        refine lv_iload_n hx hb dX8_copies_46 rfl (lv_at hl 0 rfl) ?_
        refine k_iadd hC dX8_copies_47 ?_
        refine lv_aload_n hx hb dX8_copies_48 rfl (lv_at hl 1 rfl) ?_
        refine mg_kind hC hW hin_X8 hl_13 dX8_copies_49 ?_
        refine k_bipush hC dX8_copies_52 (by decide) ?_
        refine lv_iload_n hx hb dX8_copies_54 rfl (lv_at hl 2 rfl) ?_
        refine k_imul hC dX8_copies_55 ?_
        refine lv_iload_n hx hb dX8_copies_56 rfl (lv_at hl 0 rfl) ?_
        refine k_iadd hC dX8_copies_57 ?_
        refine ma_kind hC hW r m (by omega) (by omega) (by omega) (v := σ 1 r m) (by rw [hσ4, cpP_rd _ _ _ _ (by omega), ups_t _ (by decide), ups_t _ (by decide), ups_t _ (by decide)]) dX8_copies_58 ?_
        refine ms_pileKind hC hW (4 * p + u) m (by omega) (by omega) (by omega) hS dX8_copies_59 (fun H locs hW hS => ?_)
        obtain ⟨σ5, hσ5⟩ : ∃ z, z = ups σ4 1 (8 + (4 * p + u)) m (σ 1 r m) := ⟨_, rfl⟩
        rw [← hσ5] at hW
        refine lv_aload_n hx hb dX8_copies_60 rfl (lv_at hl 1 rfl) ?_
        refine mg_pileNumber hC hW hin_X8 hl_25 dX8_copies_61 ?_
        refine k_bipush hC dX8_copies_64 (by decide) ?_
        refine lv_iload_n hx hb dX8_copies_66 rfl (lv_at hl 3 rfl) ?_
        refine k_imul hC dX8_copies_67 ?_
        refine lv_iload_n hx hb dX8_copies_68 rfl (lv_at hl 0 rfl) ?_
        refine k_iadd hC dX8_copies_69 ?_
        refine lv_aload_n hx hb dX8_copies_70 rfl (lv_at hl 1 rfl) ?_
        refine mg_number hC hW hin_X8 hl_16 dX8_copies_71 ?_
        refine k_bipush hC dX8_copies_74 (by decide) ?_
        refine lv_iload_n hx hb dX8_copies_76 rfl (lv_at hl 2 rfl) ?_
        refine k_imul hC dX8_copies_77 ?_
        refine lv_iload_n hx hb dX8_copies_78 rfl (lv_at hl 0 rfl) ?_
        refine k_iadd hC dX8_copies_79 ?_
        refine ma_number hC hW r m (by omega) (by omega) (by omega) (v := σ 2 r m) (by rw [hσ5, ups_t _ (by decide), hσ4, cpP_rd _ _ _ _ (by omega), ups_t _ (by decide), ups_t _ (by decide), ups_t _ (by decide)]) dX8_copies_80 ?_
        refine ms_pileNumber hC hW (4 * p + u) m (by omega) (by omega) (by omega) hS dX8_copies_81 (fun H locs hW hS => ?_)
        obtain ⟨σ6, hσ6⟩ : ∃ z, z = ups σ5 2 (8 + (4 * p + u)) m (σ 2 r m) := ⟨_, rfl⟩
        rw [← hσ6] at hW
        refine k_iinc (a := m) (lv' := [(3, .int (zi (m + 1))), (0, .ref (ad 0 0)), (1, .int (zi r)), (2, .int (zi (4 * p + u)))]) hC dX8_copies_82 hl (k := 0) rfl (by decide) rfl (fun ls hl => ?_)
        refine lv_goto (tgt := 28) hx hb dX8_copies_85 (by decide) ?_
        have hl := Eq.mp (congrArg (fun z : Int => lv_has ls 4 [(3, .int (zi z)), (0, .ref (ad 0 0)), (1, .int (zi r)), (2, .int (zi (4 * p + u)))]) (show (m + 1 : Int) = (m + 1) by omega)) hl
        exact ih_28 (m + 1) (by omega) (by omega) (by omega) _ _ (sw hW (by have w := cpP_s (ups (ups (ups σ 7 p u r) 4 p u 0) 3 (8 + (4 * p + u)) 0 (σ 3 r 0)) (r := (8 + (4 * p + u))) (q := r) (m := m) (by omega); simp (decide := true) only [ups_t] at w; rw [hσ6, hσ5, hσ4]; exact w)) hS _ (lv_sub hl [0, 1, 2, 3] rfl)
  exact loop_28 (Int.toNat (σ 3 r 0 - 0) + 1) 0 (by omega) (by omega) (by omega) _ _ (sw hW (by rw [hσ3, hσ2, hσ1]; exact (cpP_0 _ _ _).symm)) hS _ (lv_sub hl [0, 1, 2, 3] rfl)
set_option maxHeartbeats 1000000 in
set_option maxRecDepth 100000 in
theorem n_nearest {l : Launch} {Dg : va_G} {cA : Nat → ClassId} {ad : Nat → Int → Nat} {oc : Nat → Nat} (hI : WI mcnt ad) (σ : St) (k : Int) (hA : 0 ≤ σ 27 0 0 ∧ σ 27 0 0 ≤ 6) (hK0 : ∀ i : Int, 0 ≤ i → i < 6 → σ 13 i 0 = 0 ∨ σ 13 i 0 = 1) (hk : -1 ≤ k ∧ k < 6) : GI l yX8_nearest wsX8_nearest ({ frames := 1, cells := 0, slots := 0, locals := 21 } : Room) Dg cA mcnt ad oc (mE cA ad σ) [.ref (ad 0 0), .int (zi k)] (near σ k) (mE cA ad σ) := by
  intro sz
  refine g_ent (cc := cX8_nearest) (maxL := 4) (ret := (some .int)) (by decide) rfl hI (Nat.le_of_ble_eq_true rfl) ?_
  intro pgm env s₀ m₀ bel mth cod hX hW hS hsz ls hl
  subst hsz
  have hC := hX.1
  have hx := hC.1
  have hb := hC.2.1
  have hts := hC.2.2.2.1
  have hl : lv_has ls 4 [(0, .ref (ad 0 0)), (1, .int (zi k))] := hl
  have hin_X8 : ∀ w ∈ wsX80, w ∈ wsX8_nearest := by decide +kernel
  have hl_41 := hts (.fieldLink RX8 41 "KioskReelModel" "isOut" "[Z") (by decide +kernel)
  have hl_100 := hts (.fieldLink RX8 100 "KioskReelModel" "kiosks" "I") (by decide +kernel)
  refine k_iconst hC dX8_nearest_0 ?_
  refine lv_istore_n (lv' := [(2, .int (zi (-1))), (0, .ref (ad 0 0)), (1, .int (zi k))]) hx hb dX8_nearest_1 rfl hl (by decide) rfl (fun ls hl => ?_)
  refine k_iconst hC dX8_nearest_2 ?_
  refine lv_istore_n (lv' := [(3, .int (zi 0)), (2, .int (zi (-1))), (0, .ref (ad 0 0)), (1, .int (zi k))]) hx hb dX8_nearest_3 rfl hl (by decide) rfl (fun ls hl => ?_)
  have loop_4 : ∀ (fuel : Nat) (i : Int) (b : Int), σ 27 0 0 - i < (fuel : Int) → (0 ≤ i) → (i ≤ σ 27 0 0) → (b = nearN σ k i.toNat) → (-1 ≤ b ∧ b < 6) → ∀ (H : Heap) (locs : List Loc), WP Dg mcnt ad (mE cA ad σ) H → va_S (WA mcnt ad s₀.heap.size) s₀.heap H locs → ∀ ls : Array Slot, lv_has ls 4 [(3, .int (zi i)), (2, .int (zi b)), (0, .ref (ad 0 0)), (1, .int (zi k))] → W pgm l env ({ frames := 1, cells := 0, slots := 0, locals := 21 } : Room) s₀ m₀ ([.ref (ad 0 0), .int (zi k)] : List Value).toArray bel mth cod H locs 0 0 (MQ bel (va_Qi (fun (rr : Int32) (_ : Unit) => rr = zi (near σ k)) (gB Dg mcnt ad (mE cA ad σ)) (WA mcnt ad s₀.heap.size)) ([.ref (ad 0 0), .int (zi k)] : List Value).toArray s₀ 0 0 (WA mcnt ad s₀.heap.size)) (F0 m₀ 4 ls []) := by
    intro fuel
    induction fuel with
    | zero => intro i b hn i1 i2 i3 i4; exact absurd hn (by omega)
    | succ fuel ih_4 =>
      intro i b hn i1 i2 i3 i4 H locs hW hS ls hl
      refine lv_iload_n hx hb dX8_nearest_4 rfl (lv_at hl 0 rfl) ?_
      refine lv_aload_n hx hb dX8_nearest_5 rfl (lv_at hl 2 rfl) ?_
      refine mg_kiosks_f hC hW hin_X8 hl_100 (v := σ 27 0 0) rfl dX8_nearest_6 ?_
      refine k_icmp_ge (tgt := 50) hC dX8_nearest_9 (by decide) (by omega) (fun c1 => ?_) (fun c1 => ?_)
      · refine lv_iload_n hx hb dX8_nearest_50 rfl (lv_at hl 1 rfl) ?_
        exact k_iret hX (by rw [i3, show i = σ 27 0 0 by omega]; rfl) hW hS dX8_nearest_51
      · refine lv_aload_n hx hb dX8_nearest_12 rfl (lv_at hl 2 rfl) ?_
        refine mg_isOut hC hW hin_X8 hl_41 dX8_nearest_13 ?_
        refine lv_iload_n hx hb dX8_nearest_16 rfl (lv_at hl 0 rfl) ?_
        refine ma_isOut hC hW (by omega) (v := σ 13 i 0) rfl dX8_nearest_17 ?_
        have hK := hK0 i (by omega) (by omega)
        refine k_if_ne (tgt := 42) hC dX8_nearest_18 (by decide) (by omega) (fun c2 => ?_) (fun c2 => ?_)
        · refine lv_iload_n hx hb dX8_nearest_42 rfl (lv_at hl 1 rfl) ?_
          refine lv_istore_n (lv' := [(2, .int (zi b)), (3, .int (zi i)), (0, .ref (ad 0 0)), (1, .int (zi k))]) hx hb dX8_nearest_43 rfl hl (by decide) rfl (fun ls hl => ?_)
          refine k_iinc (a := i) (lv' := [(3, .int (zi (i + 1))), (2, .int (zi b)), (0, .ref (ad 0 0)), (1, .int (zi k))]) hC dX8_nearest_44 hl (k := 1) rfl (by decide) rfl (fun ls hl => ?_)
          refine lv_goto (tgt := 4) hx hb dX8_nearest_47 (by decide) ?_
          have hl := Eq.mp (congrArg (fun z : Int => lv_has ls 4 [(3, .int (zi z)), (2, .int (zi b)), (0, .ref (ad 0 0)), (1, .int (zi k))]) (show (i + 1 : Int) = (i + 1) by omega)) hl
          exact ih_4 (i + 1) b (by omega) (by omega) (by omega) (by rw [nearN_s σ k i1, ← i3]; first | rw [if_pos (by omega)] | rw [if_neg (by omega)]) (by omega) _ _ hW hS _ (lv_sub hl [0, 1, 2, 3] rfl)
        · refine lv_iload_n hx hb dX8_nearest_21 rfl (lv_at hl 1 rfl) ?_
          refine k_if_lt (tgt := 38) hC dX8_nearest_22 (by decide) (by omega) (fun c3 => ?_) (fun c3 => ?_)
          · refine lv_iload_n hx hb dX8_nearest_38 rfl (lv_at hl 0 rfl) ?_
            refine lv_goto (tgt := 43) hx hb dX8_nearest_39 (by decide) ?_
            refine lv_istore_n (lv' := [(2, .int (zi i)), (3, .int (zi i)), (0, .ref (ad 0 0)), (1, .int (zi k))]) hx hb dX8_nearest_43 rfl hl (by decide) rfl (fun ls hl => ?_)
            refine k_iinc (a := i) (lv' := [(3, .int (zi (i + 1))), (2, .int (zi i)), (0, .ref (ad 0 0)), (1, .int (zi k))]) hC dX8_nearest_44 hl (k := 1) rfl (by decide) rfl (fun ls hl => ?_)
            refine lv_goto (tgt := 4) hx hb dX8_nearest_47 (by decide) ?_
            have hl := Eq.mp (congrArg (fun z : Int => lv_has ls 4 [(3, .int (zi z)), (2, .int (zi i)), (0, .ref (ad 0 0)), (1, .int (zi k))]) (show (i + 1 : Int) = (i + 1) by omega)) hl
            exact ih_4 (i + 1) i (by omega) (by omega) (by omega) (by rw [nearN_s σ k i1, ← i3]; first | rw [if_pos (by omega)] | rw [if_neg (by omega)]) (by omega) _ _ hW hS _ (lv_sub hl [0, 1, 2, 3] rfl)
          · refine lv_iload_n hx hb dX8_nearest_25 rfl (lv_at hl 0 rfl) ?_
            refine lv_iload_n hx hb dX8_nearest_26 rfl (lv_at hl 3 rfl) ?_
            refine k_callSI (As := [.int (zi i), .int (zi k)]) (rest := []) hX hl.1 (n_apart hI σ i k (by omega) (by omega)) (cwS 2 hts gX8_nearest_X8_apart rfl rfl rfl (by decide +kernel) ⟨Nat.le_of_ble_eq_true rfl, Nat.le_of_ble_eq_true rfl⟩) hW hS ⟨Nat.zero_le _, Nat.zero_le _⟩ rfl rfl (Nat.le_of_ble_eq_true rfl) dX8_nearest_27 (fun H locs hW hS _ _ => ?_)
            obtain ⟨a1, ha1⟩ : ∃ z : Int, z = apart i k := ⟨_, rfl⟩
            rw [← ha1]
            refine lv_iload_n hx hb dX8_nearest_30 rfl (lv_at hl 1 rfl) ?_
            refine lv_iload_n hx hb dX8_nearest_31 rfl (lv_at hl 3 rfl) ?_
            refine k_callSI (As := [.int (zi b), .int (zi k)]) (rest := [.int (zi a1)]) hX hl.1 (n_apart hI σ b k (by omega) (by omega)) (cwS 2 hts gX8_nearest_X8_apart rfl rfl rfl (by decide +kernel) ⟨Nat.le_of_ble_eq_true rfl, Nat.le_of_ble_eq_true rfl⟩) hW hS ⟨Nat.zero_le _, Nat.zero_le _⟩ rfl rfl (Nat.le_of_ble_eq_true rfl) dX8_nearest_32 (fun H locs hW hS _ _ => ?_)
            obtain ⟨a2, ha2⟩ : ∃ z : Int, z = apart b k := ⟨_, rfl⟩
            rw [← ha2]
            have r1 : 0 ≤ a1 ∧ a1 < 12 := by rw [ha1]; unfold apart; omega
            have r2 : 0 ≤ a2 ∧ a2 < 12 := by rw [ha2]; unfold apart; omega
            refine k_icmp_ge (tgt := 42) hC dX8_nearest_35 (by decide) (by omega) (fun c4 => ?_) (fun c4 => ?_)
            · refine lv_iload_n hx hb dX8_nearest_42 rfl (lv_at hl 1 rfl) ?_
              refine lv_istore_n (lv' := [(2, .int (zi b)), (3, .int (zi i)), (0, .ref (ad 0 0)), (1, .int (zi k))]) hx hb dX8_nearest_43 rfl hl (by decide) rfl (fun ls hl => ?_)
              refine k_iinc (a := i) (lv' := [(3, .int (zi (i + 1))), (2, .int (zi b)), (0, .ref (ad 0 0)), (1, .int (zi k))]) hC dX8_nearest_44 hl (k := 1) rfl (by decide) rfl (fun ls hl => ?_)
              refine lv_goto (tgt := 4) hx hb dX8_nearest_47 (by decide) ?_
              have hl := Eq.mp (congrArg (fun z : Int => lv_has ls 4 [(3, .int (zi z)), (2, .int (zi b)), (0, .ref (ad 0 0)), (1, .int (zi k))]) (show (i + 1 : Int) = (i + 1) by omega)) hl
              exact ih_4 (i + 1) b (by omega) (by omega) (by omega) (by rw [nearN_s σ k i1, ← i3]; first | rw [if_pos (by omega)] | rw [if_neg (by omega)]) (by omega) _ _ hW hS _ (lv_sub hl [0, 1, 2, 3] rfl)
            · refine lv_iload_n hx hb dX8_nearest_38 rfl (lv_at hl 0 rfl) ?_
              refine lv_goto (tgt := 43) hx hb dX8_nearest_39 (by decide) ?_
              refine lv_istore_n (lv' := [(2, .int (zi i)), (3, .int (zi i)), (0, .ref (ad 0 0)), (1, .int (zi k))]) hx hb dX8_nearest_43 rfl hl (by decide) rfl (fun ls hl => ?_)
              refine k_iinc (a := i) (lv' := [(3, .int (zi (i + 1))), (2, .int (zi i)), (0, .ref (ad 0 0)), (1, .int (zi k))]) hC dX8_nearest_44 hl (k := 1) rfl (by decide) rfl (fun ls hl => ?_)
              refine lv_goto (tgt := 4) hx hb dX8_nearest_47 (by decide) ?_
              have hl := Eq.mp (congrArg (fun z : Int => lv_has ls 4 [(3, .int (zi z)), (2, .int (zi i)), (0, .ref (ad 0 0)), (1, .int (zi k))]) (show (i + 1 : Int) = (i + 1) by omega)) hl
              exact ih_4 (i + 1) i (by omega) (by omega) (by omega) (by rw [nearN_s σ k i1, ← i3]; first | rw [if_pos (by omega)] | rw [if_neg (by omega)]) (by omega) _ _ hW hS _ (lv_sub hl [0, 1, 2, 3] rfl)
  exact loop_4 (Int.toNat (σ 27 0 0 - 0) + 1) 0 (-1) (by omega) (by omega) (by omega) rfl (by omega) _ _ hW hS _ (lv_sub hl [0, 1, 2, 3] rfl)
set_option maxHeartbeats 1000000 in
set_option maxRecDepth 100000 in
theorem n_comesTo {l : Launch} {Dg : va_G} {cA : Nat → ClassId} {ad : Nat → Int → Nat} {oc : Nat → Nat} (hI : WI mcnt ad) (σ : St) (p k : Int) (hp : 0 ≤ p ∧ p < 6) (hk : k = -1 ∨ (0 ≤ k ∧ k < 6)) (hs : k ≠ -1 → 0 ≤ σ 17 k 0 ∧ σ 17 k 0 < 6) : GV l yX8_comesTo wsX8_comesTo ({ frames := 0, cells := 0, slots := 0, locals := 0 } : Room) Dg cA mcnt ad oc (mE cA ad σ) [.ref (ad 0 0), .int (zi p), .int (zi k)] (mE cA ad (fCome σ p k)) := by
  intro sz
  refine g_ent (cc := cX8_comesTo) (maxL := 4) (ret := none) (by decide) rfl hI (Nat.le_of_ble_eq_true rfl) ?_
  intro pgm env s₀ m₀ bel mth cod hX hW hS hsz ls hl
  subst hsz
  have hC := hX.1
  have hx := hC.1
  have hb := hC.2.1
  have hts := hC.2.2.2.1
  have hl : lv_has ls 4 [(0, .ref (ad 0 0)), (1, .int (zi p)), (2, .int (zi k))] := hl
  have hin_X8 : ∀ w ∈ wsX80, w ∈ wsX8_comesTo := by decide +kernel
  have hl_47 := hts (.fieldLink RX8 47 "KioskReelModel" "at" "[I") (by decide +kernel)
  have hl_65 := hts (.fieldLink RX8 65 "KioskReelModel" "playing" "[I") (by decide +kernel)
  have hl_68 := hts (.fieldLink RX8 68 "KioskReelModel" "playingMany" "[I") (by decide +kernel)
  refine lv_aload_n hx hb dX8_comesTo_0 rfl (lv_at hl 0 rfl) ?_
  refine mg_at hC hW hin_X8 hl_47 dX8_comesTo_1 ?_
  refine lv_iload_n hx hb dX8_comesTo_4 rfl (lv_at hl 1 rfl) ?_
  refine lv_iload_n hx hb dX8_comesTo_5 rfl (lv_at hl 2 rfl) ?_
  refine ms_at hC hW (by omega) hS dX8_comesTo_6 (fun H locs hW hS => ?_)
  obtain ⟨σ1, hσ1⟩ : ∃ z, z = ups σ 8 p 0 k := ⟨_, rfl⟩
  rw [← hσ1] at hW
  refine lv_iload_n hx hb dX8_comesTo_7 rfl (lv_at hl 2 rfl) ?_
  refine k_if_lt (tgt := 73) hC dX8_comesTo_8 (by decide) (by omega) (fun c1 => ?_) (fun c1 => ?_)
  · have hW : WP Dg mcnt ad (mE cA ad (fCome σ p k)) _ := (by first | exact sw hW (by rw [hσ1, fCome, if_neg (by omega), if_pos (by omega)]) | exact sw hW (by rw [hσ1]; exact come_end (by omega)))
    exact k_vret hX hW hS dX8_comesTo_73
  · refine k_bipush hC dX8_comesTo_11 (by decide) ?_
    refine lv_iload_n hx hb dX8_comesTo_13 rfl (lv_at hl 2 rfl) ?_
    refine k_imul hC dX8_comesTo_14 ?_
    refine lv_aload_n hx hb dX8_comesTo_15 rfl (lv_at hl 0 rfl) ?_
    refine mg_playingMany hC hW hin_X8 hl_68 dX8_comesTo_16 ?_
    refine lv_iload_n hx hb dX8_comesTo_19 rfl (lv_at hl 2 rfl) ?_
    refine ma_playingMany hC hW (by omega) (v := σ 17 k 0) (by rw [hσ1, ups_t _ (by decide)]) dX8_comesTo_20 ?_
    refine k_iadd hC dX8_comesTo_21 ?_
    refine lv_istore_n (lv' := [(3, .int (zi ((6 * k) + (σ 17 k 0)))), (0, .ref (ad 0 0)), (1, .int (zi p)), (2, .int (zi k))]) hx hb dX8_comesTo_22 rfl hl (by decide) rfl (fun ls hl => ?_)
    have loop_23 : ∀ (fuel : Nat) (m : Int), m < (fuel : Int) → (0 ≤ m) → (m ≤ σ 17 k 0) → (p ≠ k → m = σ 17 k 0) → (0 ≤ k) → ∀ (H : Heap) (locs : List Loc), WP Dg mcnt ad (mE cA ad (shR (ups σ 8 p 0 k) k m)) H → va_S (WA mcnt ad s₀.heap.size) s₀.heap H locs → ∀ ls : Array Slot, lv_has ls 4 [(3, .int (zi (6 * k + m))), (0, .ref (ad 0 0)), (1, .int (zi p)), (2, .int (zi k))] → W pgm l env ({ frames := 0, cells := 0, slots := 0, locals := 0 } : Room) s₀ m₀ ([.ref (ad 0 0), .int (zi p), .int (zi k)] : List Value).toArray bel mth cod H locs 0 0 (MQ bel (va_Qv (fun _ : Unit => True) (gB Dg mcnt ad (mE cA ad (fCome σ p k))) (WA mcnt ad s₀.heap.size)) ([.ref (ad 0 0), .int (zi p), .int (zi k)] : List Value).toArray s₀ 0 0 (WA mcnt ad s₀.heap.size)) (F0 m₀ 23 ls []) := by
      intro fuel
      induction fuel with
      | zero => intro m hn i1 i2 i3 i4; exact absurd hn (by omega)
      | succ fuel ih_23 =>
        intro m hn i1 i2 i3 i4 H locs hW hS ls hl
        obtain ⟨σ2, hσ2⟩ : ∃ z, z = shR (ups σ 8 p 0 k) k m := ⟨_, rfl⟩
        rw [← hσ2] at hW
        refine lv_iload_n hx hb dX8_comesTo_23 rfl (lv_at hl 2 rfl) ?_
        refine lv_iload_n hx hb dX8_comesTo_24 rfl (lv_at hl 3 rfl) ?_
        refine k_icmp_ne (tgt := 56) hC dX8_comesTo_25 (by decide) (by omega) (fun c2 => ?_) (fun c2 => ?_)
        · refine lv_aload_n hx hb dX8_comesTo_56 rfl (lv_at hl 1 rfl) ?_
          refine mg_playing hC hW hin_X8 hl_65 dX8_comesTo_57 ?_
          refine lv_iload_n hx hb dX8_comesTo_60 rfl (lv_at hl 0 rfl) ?_
          refine lv_iload_n hx hb dX8_comesTo_61 rfl (lv_at hl 2 rfl) ?_
          refine ms_playing hC hW k m (by omega) (by omega) (by omega) hS dX8_comesTo_62 (fun H locs hW hS => ?_)
          obtain ⟨σ3, hσ3⟩ : ∃ z, z = ups σ2 16 k m p := ⟨_, rfl⟩
          rw [← hσ3] at hW
          refine lv_aload_n hx hb dX8_comesTo_63 rfl (lv_at hl 1 rfl) ?_
          refine mg_playingMany hC hW hin_X8 hl_68 dX8_comesTo_64 ?_
          refine lv_iload_n hx hb dX8_comesTo_67 rfl (lv_at hl 3 rfl) ?_
          refine lv_dup2_11 hx hb dX8_comesTo_68 rfl rfl ?_
          refine ma_playingMany hC hW (by omega) (v := σ 17 k 0) (by rw [hσ3, ups_t _ (by decide), hσ2, shR_o _ _ _ (by decide), ups_t _ (by decide)]) dX8_comesTo_69 ?_
          refine k_iconst hC dX8_comesTo_70 ?_
          refine k_iadd hC dX8_comesTo_71 ?_
          refine ms_playingMany hC hW (by omega) hS dX8_comesTo_72 (fun H locs hW hS => ?_)
          obtain ⟨σ4, hσ4⟩ : ∃ z, z = ups σ3 17 k 0 ((σ 17 k 0) + 1) := ⟨_, rfl⟩
          rw [← hσ4] at hW
          have hW : WP Dg mcnt ad (mE cA ad (fCome σ p k)) _ := (by first | exact sw hW (by rw [hσ4, hσ3, hσ2, fCome, if_neg (by omega), if_pos (by omega)]) | exact sw hW (by rw [hσ4, hσ3, hσ2]; exact come_end (by omega)))
          exact k_vret hX hW hS dX8_comesTo_73
        · refine lv_iload_n hx hb dX8_comesTo_28 rfl (lv_at hl 0 rfl) ?_
          refine k_bipush hC dX8_comesTo_29 (by decide) ?_
          refine lv_iload_n hx hb dX8_comesTo_31 rfl (lv_at hl 3 rfl) ?_
          refine k_imul hC dX8_comesTo_32 ?_
          refine k_icmp_le (tgt := 56) hC dX8_comesTo_33 (by decide) (by omega) (fun c3 => ?_) (fun c3 => ?_)
          · refine lv_aload_n hx hb dX8_comesTo_56 rfl (lv_at hl 1 rfl) ?_
            refine mg_playing hC hW hin_X8 hl_65 dX8_comesTo_57 ?_
            refine lv_iload_n hx hb dX8_comesTo_60 rfl (lv_at hl 0 rfl) ?_
            refine lv_iload_n hx hb dX8_comesTo_61 rfl (lv_at hl 2 rfl) ?_
            refine ms_playing hC hW k m (by omega) (by omega) (by omega) hS dX8_comesTo_62 (fun H locs hW hS => ?_)
            obtain ⟨σ5, hσ5⟩ : ∃ z, z = ups σ2 16 k m p := ⟨_, rfl⟩
            rw [← hσ5] at hW
            refine lv_aload_n hx hb dX8_comesTo_63 rfl (lv_at hl 1 rfl) ?_
            refine mg_playingMany hC hW hin_X8 hl_68 dX8_comesTo_64 ?_
            refine lv_iload_n hx hb dX8_comesTo_67 rfl (lv_at hl 3 rfl) ?_
            refine lv_dup2_11 hx hb dX8_comesTo_68 rfl rfl ?_
            refine ma_playingMany hC hW (by omega) (v := σ 17 k 0) (by rw [hσ5, ups_t _ (by decide), hσ2, shR_o _ _ _ (by decide), ups_t _ (by decide)]) dX8_comesTo_69 ?_
            refine k_iconst hC dX8_comesTo_70 ?_
            refine k_iadd hC dX8_comesTo_71 ?_
            refine ms_playingMany hC hW (by omega) hS dX8_comesTo_72 (fun H locs hW hS => ?_)
            obtain ⟨σ6, hσ6⟩ : ∃ z, z = ups σ5 17 k 0 ((σ 17 k 0) + 1) := ⟨_, rfl⟩
            rw [← hσ6] at hW
            have hW : WP Dg mcnt ad (mE cA ad (fCome σ p k)) _ := (by first | exact sw hW (by rw [hσ6, hσ5, hσ2, fCome, if_neg (by omega), if_pos (by omega)]) | exact sw hW (by rw [hσ6, hσ5, hσ2]; exact come_end (by omega)))
            exact k_vret hX hW hS dX8_comesTo_73
          · refine lv_aload_n hx hb dX8_comesTo_36 rfl (lv_at hl 1 rfl) ?_
            refine mg_playing hC hW hin_X8 hl_65 dX8_comesTo_37 ?_
            refine lv_iload_n hx hb dX8_comesTo_40 rfl (lv_at hl 0 rfl) ?_
            refine lv_aload_n hx hb dX8_comesTo_41 rfl (lv_at hl 1 rfl) ?_
            refine mg_playing hC hW hin_X8 hl_65 dX8_comesTo_42 ?_
            refine lv_iload_n hx hb dX8_comesTo_45 rfl (lv_at hl 0 rfl) ?_
            refine k_iconst hC dX8_comesTo_46 ?_
            refine k_isub hC dX8_comesTo_47 ?_
            refine ma_playing hC hW k (m - 1) (by omega) (by omega) (by omega) (v := σ 16 k (m - 1)) (by rw [hσ2, shR_rd _ _ _ (by omega), ups_t _ (by decide)]) dX8_comesTo_48 ?_
            refine ms_playing hC hW k m (by omega) (by omega) (by omega) hS dX8_comesTo_49 (fun H locs hW hS => ?_)
            obtain ⟨σ7, hσ7⟩ : ∃ z, z = ups σ2 16 k m (σ 16 k (m - 1)) := ⟨_, rfl⟩
            rw [← hσ7] at hW
            refine k_iinc (a := 6 * k + m) (lv' := [(3, .int (zi ((6 * k + m) + (-1)))), (0, .ref (ad 0 0)), (1, .int (zi p)), (2, .int (zi k))]) hC dX8_comesTo_50 hl (k := 0) rfl (by decide) rfl (fun ls hl => ?_)
            refine lv_goto (tgt := 23) hx hb dX8_comesTo_53 (by decide) ?_
            have hl := Eq.mp (congrArg (fun z : Int => lv_has ls 4 [(3, .int (zi z)), (0, .ref (ad 0 0)), (1, .int (zi p)), (2, .int (zi k))]) (show ((6 * k + m) + (-1) : Int) = 6 * k + (m - 1) by omega)) hl
            exact ih_23 (m - 1) (by omega) (by omega) (by omega) (by omega) (by omega) _ _ (sw hW (by rw [hσ7, hσ2]; have q := shR_s (ups σ 8 p 0 k) (w := k) (m := m) (by rw [ups_t _ (by decide)]; omega); rw [ups_t _ (by decide)] at q; exact q)) hS _ (lv_sub hl [0, 1, 2, 3] rfl)
    have hl := Eq.mp (congrArg (fun z : Int => lv_has ls 4 [(3, .int (zi z)), (0, .ref (ad 0 0)), (1, .int (zi p)), (2, .int (zi k))]) (show ((6 * k) + (σ 17 k 0) : Int) = 6 * k + (σ 17 k 0) by omega)) hl
    exact loop_23 (Int.toNat ((σ 17 k 0)) + 1) (σ 17 k 0) (by omega) (by omega) (by omega) (by omega) (by omega) _ _ (sw hW (by rw [hσ1]; have q := shR_0 (ups σ 8 p 0 k) k; rw [ups_t _ (by decide)] at q; exact q.symm)) hS _ (lv_sub hl [0, 1, 2, 3] rfl)
set_option maxHeartbeats 1000000 in
set_option maxRecDepth 100000 in
theorem n_leaves {l : Launch} {Dg : va_G} {cA : Nat → ClassId} {ad : Nat → Int → Nat} {oc : Nat → Nat} (hI : WI mcnt ad) (σ : St) (p : Int) (hp : 0 ≤ p ∧ p < 6) (hW0 : IvW σ) (h8 : -1 ≤ σ 8 p 0 ∧ σ 8 p 0 < 6) (hm : σ 8 p 0 ≠ -1 → mem σ (σ 8 p 0) p) : GV l yX8_leaves wsX8_leaves ({ frames := 0, cells := 0, slots := 0, locals := 0 } : Room) Dg cA mcnt ad oc (mE cA ad σ) [.ref (ad 0 0), .int (zi p)] (mE cA ad (gLeave σ p)) := by
  intro sz
  refine g_ent (cc := cX8_leaves) (maxL := 4) (ret := none) (by decide) rfl hI (Nat.le_of_ble_eq_true rfl) ?_
  intro pgm env s₀ m₀ bel mth cod hX hW hS hsz ls hl
  subst hsz
  have hC := hX.1
  have hx := hC.1
  have hb := hC.2.1
  have hts := hC.2.2.2.1
  have hl : lv_has ls 4 [(0, .ref (ad 0 0)), (1, .int (zi p))] := hl
  have hin_X8 : ∀ w ∈ wsX80, w ∈ wsX8_leaves := by decide +kernel
  have hl_47 := hts (.fieldLink RX8 47 "KioskReelModel" "at" "[I") (by decide +kernel)
  have hl_65 := hts (.fieldLink RX8 65 "KioskReelModel" "playing" "[I") (by decide +kernel)
  have hl_68 := hts (.fieldLink RX8 68 "KioskReelModel" "playingMany" "[I") (by decide +kernel)
  refine lv_aload_n hx hb dX8_leaves_0 rfl (lv_at hl 0 rfl) ?_
  refine mg_at hC hW hin_X8 hl_47 dX8_leaves_1 ?_
  refine lv_iload_n hx hb dX8_leaves_4 rfl (lv_at hl 1 rfl) ?_
  refine ma_at hC hW (by omega) (v := σ 8 p 0) rfl dX8_leaves_5 ?_
  refine k_if_lt (tgt := 89) hC dX8_leaves_6 (by decide) (by omega) (fun c1 => ?_) (fun c1 => ?_)
  · have hW : WP Dg mcnt ad (mE cA ad (gLeave σ p)) _ := (by first | (rw [gLeave, if_pos (by omega)]; exact hW) | exact sw hW (by rw [gLeave, if_neg (by omega), show q = σ 17 (σ 8 p 0) 0 - 1 by omega, shL_ups _ (by decide)]; rfl))
    exact k_vret hX hW hS dX8_leaves_89
  · obtain ⟨w1, w2, w3⟩ := hW0 (σ 8 p 0) (by omega) (by omega)
    obtain ⟨x1, x2, x3, x4⟩ := idx_spec (hm (by omega))
    refine k_bipush hC dX8_leaves_9 (by decide) ?_
    refine lv_aload_n hx hb dX8_leaves_11 rfl (lv_at hl 0 rfl) ?_
    refine mg_at hC hW hin_X8 hl_47 dX8_leaves_12 ?_
    refine lv_iload_n hx hb dX8_leaves_15 rfl (lv_at hl 1 rfl) ?_
    refine ma_at hC hW (by omega) (v := σ 8 p 0) rfl dX8_leaves_16 ?_
    refine k_imul hC dX8_leaves_17 ?_
    refine lv_istore_n (lv' := [(2, .int (zi (6 * (σ 8 p 0)))), (0, .ref (ad 0 0)), (1, .int (zi p))]) hx hb dX8_leaves_18 rfl hl (by decide) rfl (fun ls hl => ?_)
    refine lv_iload_n hx hb dX8_leaves_19 rfl (lv_at hl 0 rfl) ?_
    refine lv_istore_n (lv' := [(3, .int (zi (6 * (σ 8 p 0)))), (2, .int (zi (6 * (σ 8 p 0)))), (0, .ref (ad 0 0)), (1, .int (zi p))]) hx hb dX8_leaves_20 rfl hl (by decide) rfl (fun ls hl => ?_)
    have loop_21 : ∀ (fuel : Nat) (m : Int), (idx σ (σ 8 p 0) p) - m < (fuel : Int) → (0 ≤ m) → (m ≤ (idx σ (σ 8 p 0) p)) → ∀ (H : Heap) (locs : List Loc), WP Dg mcnt ad (mE cA ad σ) H → va_S (WA mcnt ad s₀.heap.size) s₀.heap H locs → ∀ ls : Array Slot, lv_has ls 4 [(3, .int (zi (6 * (σ 8 p 0) + m))), (2, .int (zi (6 * (σ 8 p 0)))), (0, .ref (ad 0 0)), (1, .int (zi p))] → W pgm l env ({ frames := 0, cells := 0, slots := 0, locals := 0 } : Room) s₀ m₀ ([.ref (ad 0 0), .int (zi p)] : List Value).toArray bel mth cod H locs 0 0 (MQ bel (va_Qv (fun _ : Unit => True) (gB Dg mcnt ad (mE cA ad (gLeave σ p))) (WA mcnt ad s₀.heap.size)) ([.ref (ad 0 0), .int (zi p)] : List Value).toArray s₀ 0 0 (WA mcnt ad s₀.heap.size)) (F0 m₀ 21 ls []) := by
      intro fuel
      induction fuel with
      | zero => intro m hn i1 i2; exact absurd hn (by omega)
      | succ fuel ih_21 =>
        intro m hn i1 i2 H locs hW hS ls hl
        refine lv_aload_n hx hb dX8_leaves_21 rfl (lv_at hl 2 rfl) ?_
        refine mg_playing hC hW hin_X8 hl_65 dX8_leaves_22 ?_
        refine lv_iload_n hx hb dX8_leaves_25 rfl (lv_at hl 0 rfl) ?_
        refine ma_playing hC hW (σ 8 p 0) m (by omega) (by omega) (by omega) (v := σ 16 (σ 8 p 0) m) rfl dX8_leaves_26 ?_
        refine lv_iload_n hx hb dX8_leaves_27 rfl (lv_at hl 3 rfl) ?_
        have y1 := w2 m (by omega) (by omega)
        refine k_icmp_eq (tgt := 37) hC dX8_leaves_28 (by decide) (by omega) (fun c2 => ?_) (fun c2 => ?_)
        · have hj : m = (idx σ (σ 8 p 0) p) := by
            rcases Int.lt_or_le m (idx σ (σ 8 p 0) p) with z | z
            · exact absurd (by assumption) (x4 m (by omega) z)
            · omega
          refine lv_aload_n hx hb dX8_leaves_37 rfl (lv_at hl 2 rfl) ?_
          refine mg_playingMany hC hW hin_X8 hl_68 dX8_leaves_38 ?_
          refine lv_aload_n hx hb dX8_leaves_41 rfl (lv_at hl 2 rfl) ?_
          refine mg_at hC hW hin_X8 hl_47 dX8_leaves_42 ?_
          refine lv_iload_n hx hb dX8_leaves_45 rfl (lv_at hl 3 rfl) ?_
          refine ma_at hC hW (by omega) (v := σ 8 p 0) rfl dX8_leaves_46 ?_
          refine lv_dup2_11 hx hb dX8_leaves_47 rfl rfl ?_
          refine ma_playingMany hC hW (by omega) (v := σ 17 (σ 8 p 0) 0) rfl dX8_leaves_48 ?_
          refine k_iconst hC dX8_leaves_49 ?_
          refine k_isub hC dX8_leaves_50 ?_
          refine ms_playingMany hC hW (by omega) hS dX8_leaves_51 (fun H locs hW hS => ?_)
          obtain ⟨σ1, hσ1⟩ : ∃ z, z = ups σ 17 (σ 8 p 0) 0 ((σ 17 (σ 8 p 0) 0) - 1) := ⟨_, rfl⟩
          rw [← hσ1] at hW
          have loop_52 : ∀ (fuel : Nat) (q : Int), σ 17 (σ 8 p 0) 0 - 1 - q < (fuel : Int) → ((idx σ (σ 8 p 0) p) ≤ q) → (q ≤ σ 17 (σ 8 p 0) 0 - 1) → ∀ (H : Heap) (locs : List Loc), WP Dg mcnt ad (mE cA ad (shL (ups σ 17 (σ 8 p 0) 0 (σ 17 (σ 8 p 0) 0 - 1)) (σ 8 p 0) (idx σ (σ 8 p 0) p) q)) H → va_S (WA mcnt ad s₀.heap.size) s₀.heap H locs → ∀ ls : Array Slot, lv_has ls 4 [(3, .int (zi (6 * (σ 8 p 0) + q))), (2, .int (zi (6 * (σ 8 p 0)))), (0, .ref (ad 0 0)), (1, .int (zi p))] → W pgm l env ({ frames := 0, cells := 0, slots := 0, locals := 0 } : Room) s₀ m₀ ([.ref (ad 0 0), .int (zi p)] : List Value).toArray bel mth cod H locs 0 0 (MQ bel (va_Qv (fun _ : Unit => True) (gB Dg mcnt ad (mE cA ad (gLeave σ p))) (WA mcnt ad s₀.heap.size)) ([.ref (ad 0 0), .int (zi p)] : List Value).toArray s₀ 0 0 (WA mcnt ad s₀.heap.size)) (F0 m₀ 52 ls []) := by
            intro fuel
            induction fuel with
            | zero => intro q hn j1 j2; exact absurd hn (by omega)
            | succ fuel ih_52 =>
              intro q hn j1 j2 H locs hW hS ls hl
              obtain ⟨σ2, hσ2⟩ : ∃ z, z = shL (ups σ 17 (σ 8 p 0) 0 (σ 17 (σ 8 p 0) 0 - 1)) (σ 8 p 0) (idx σ (σ 8 p 0) p) q := ⟨_, rfl⟩
              rw [← hσ2] at hW
              refine lv_iload_n hx hb dX8_leaves_52 rfl (lv_at hl 0 rfl) ?_
              refine lv_iload_n hx hb dX8_leaves_53 rfl (lv_at hl 1 rfl) ?_
              refine lv_aload_n hx hb dX8_leaves_54 rfl (lv_at hl 2 rfl) ?_
              refine mg_playingMany hC hW hin_X8 hl_68 dX8_leaves_55 ?_
              refine lv_aload_n hx hb dX8_leaves_58 rfl (lv_at hl 2 rfl) ?_
              refine mg_at hC hW hin_X8 hl_47 dX8_leaves_59 ?_
              refine lv_iload_n hx hb dX8_leaves_62 rfl (lv_at hl 3 rfl) ?_
              refine ma_at hC hW (by omega) (v := σ 8 p 0) (by rw [hσ2, shL_o _ _ _ _ (by decide), ups_t _ (by decide)]) dX8_leaves_63 ?_
              refine ma_playingMany hC hW (by omega) (v := σ 17 (σ 8 p 0) 0 - 1) (by rw [hσ2, shL_o _ _ _ _ (by decide), ups_eq]) dX8_leaves_64 ?_
              refine k_iadd hC dX8_leaves_65 ?_
              refine k_icmp_ge (tgt := 89) hC dX8_leaves_66 (by decide) (by omega) (fun c3 => ?_) (fun c3 => ?_)
              · have hW : WP Dg mcnt ad (mE cA ad (gLeave σ p)) _ := (by first | (rw [gLeave, if_pos (by omega)]; exact hW) | exact sw hW (by rw [hσ2, gLeave, if_neg (by omega), show q = σ 17 (σ 8 p 0) 0 - 1 by omega, shL_ups _ (by decide)]; rfl))
                exact k_vret hX hW hS dX8_leaves_89
              · refine lv_aload_n hx hb dX8_leaves_69 rfl (lv_at hl 2 rfl) ?_
                refine mg_playing hC hW hin_X8 hl_65 dX8_leaves_70 ?_
                refine lv_iload_n hx hb dX8_leaves_73 rfl (lv_at hl 0 rfl) ?_
                refine lv_aload_n hx hb dX8_leaves_74 rfl (lv_at hl 2 rfl) ?_
                refine mg_playing hC hW hin_X8 hl_65 dX8_leaves_75 ?_
                refine lv_iload_n hx hb dX8_leaves_78 rfl (lv_at hl 0 rfl) ?_
                refine k_iconst hC dX8_leaves_79 ?_
                refine k_iadd hC dX8_leaves_80 ?_
                refine ma_playing hC hW (σ 8 p 0) (q + 1) (by omega) (by omega) (by omega) (v := σ 16 (σ 8 p 0) (q + 1)) (by rw [hσ2, shL_rd _ _ _ (by omega), ups_t _ (by decide)]) dX8_leaves_81 ?_
                refine ms_playing hC hW (σ 8 p 0) q (by omega) (by omega) (by omega) hS dX8_leaves_82 (fun H locs hW hS => ?_)
                obtain ⟨σ3, hσ3⟩ : ∃ z, z = ups σ2 16 (σ 8 p 0) q (σ 16 (σ 8 p 0) (q + 1)) := ⟨_, rfl⟩
                rw [← hσ3] at hW
                refine k_iinc (a := 6 * (σ 8 p 0) + q) (lv' := [(3, .int (zi ((6 * (σ 8 p 0) + q) + 1))), (2, .int (zi (6 * (σ 8 p 0)))), (0, .ref (ad 0 0)), (1, .int (zi p))]) hC dX8_leaves_83 hl (k := 0) rfl (by decide) rfl (fun ls hl => ?_)
                refine lv_goto (tgt := 52) hx hb dX8_leaves_86 (by decide) ?_
                have hl := Eq.mp (congrArg (fun z : Int => lv_has ls 4 [(3, .int (zi z)), (2, .int (zi (6 * (σ 8 p 0)))), (0, .ref (ad 0 0)), (1, .int (zi p))]) (show ((6 * (σ 8 p 0) + q) + 1 : Int) = 6 * (σ 8 p 0) + (q + 1) by omega)) hl
                exact ih_52 (q + 1) (by omega) (by omega) (by omega) _ _ (sw hW (by rw [hσ3, hσ2]; have z := shL_s (ups σ 17 (σ 8 p 0) 0 (σ 17 (σ 8 p 0) 0 - 1)) (w := σ 8 p 0) (j0 := (idx σ (σ 8 p 0) p)) (m := q) (by omega); rw [ups_t _ (by decide)] at z; exact z)) hS _ (lv_sub hl [0, 1, 2, 3] rfl)
          exact loop_52 (Int.toNat (σ 17 (σ 8 p 0) 0 - 1 - m) + 1) m (by omega) (by omega) (by omega) _ _ (sw hW (by rw [hσ1, hj]; exact (shL_0 _ _ (Int.le_refl _)).symm)) hS _ (lv_sub hl [0, 1, 2, 3] rfl)
        · refine k_iinc (a := 6 * (σ 8 p 0) + m) (lv' := [(3, .int (zi ((6 * (σ 8 p 0) + m) + 1))), (2, .int (zi (6 * (σ 8 p 0)))), (0, .ref (ad 0 0)), (1, .int (zi p))]) hC dX8_leaves_31 hl (k := 0) rfl (by decide) rfl (fun ls hl => ?_)
          refine lv_goto (tgt := 21) hx hb dX8_leaves_34 (by decide) ?_
          have hl := Eq.mp (congrArg (fun z : Int => lv_has ls 4 [(3, .int (zi z)), (2, .int (zi (6 * (σ 8 p 0)))), (0, .ref (ad 0 0)), (1, .int (zi p))]) (show ((6 * (σ 8 p 0) + m) + 1 : Int) = 6 * (σ 8 p 0) + (m + 1) by omega)) hl
          exact ih_21 (m + 1) (by omega) (by omega) (by have hne : m ≠ (idx σ (σ 8 p 0) p) := fun z => (by assumption : ¬ σ 16 (σ 8 p 0) m = p) (by rw [z]; exact x3); omega) _ _ hW hS _ (lv_sub hl [0, 1, 2, 3] rfl)
    have hl := Eq.mp (congrArg (fun z : Int => lv_has ls 4 [(3, .int (zi z)), (2, .int (zi (6 * (σ 8 p 0)))), (0, .ref (ad 0 0)), (1, .int (zi p))]) (show (6 * (σ 8 p 0) : Int) = 6 * (σ 8 p 0) + 0 by omega)) hl
    exact loop_21 (Int.toNat ((idx σ (σ 8 p 0) p) - 0) + 1) 0 (by omega) (by omega) (by omega) _ _ hW hS _ (lv_sub hl [0, 1, 2, 3] rfl)
set_option maxHeartbeats 1000000 in
set_option maxRecDepth 100000 in
theorem n_held {l : Launch} {Dg : va_G} {cA : Nat → ClassId} {ad : Nat → Int → Nat} {oc : Nat → Nat} (hI : WI mcnt ad) {N M : Int} (σ : St) (p : Int) (hv : Inv N M σ) (hp : -1 ≤ p ∧ p < 6) : GI l yX8_held wsX8_held ({ frames := 0, cells := 0, slots := 0, locals := 0 } : Room) Dg cA mcnt ad oc (mE cA ad σ) [.ref (ad 0 0), .int (zi p)] (held σ p) (mE cA ad σ) := by
  intro sz
  refine g_ent (cc := cX8_held) (maxL := 4) (ret := (some .int)) (by decide) rfl hI (Nat.le_of_ble_eq_true rfl) ?_
  intro pgm env s₀ m₀ bel mth cod hX hW hS hsz ls hl
  subst hsz
  have hC := hX.1
  have hx := hC.1
  have hb := hC.2.1
  have hts := hC.2.2.2.1
  have hl : lv_has ls 4 [(0, .ref (ad 0 0)), (1, .int (zi p))] := hl
  have hin_X8 : ∀ w ∈ wsX80, w ∈ wsX8_held := by decide +kernel
  have hl_71 := hts (.fieldLink RX8 71 "KioskReelModel" "holder" "[I") (by decide +kernel)
  refine k_iconst hC dX8_held_0 ?_
  refine lv_istore_n (lv' := [(2, .int (zi 0)), (0, .ref (ad 0 0)), (1, .int (zi p))]) hx hb dX8_held_1 rfl hl (by decide) rfl (fun ls hl => ?_)
  refine k_iconst hC dX8_held_2 ?_
  refine lv_istore_n (lv' := [(3, .int (zi 0)), (2, .int (zi 0)), (0, .ref (ad 0 0)), (1, .int (zi p))]) hx hb dX8_held_3 rfl hl (by decide) rfl (fun ls hl => ?_)
  have loop_4 : ∀ (fuel : Nat) (i : Int) (f : Int), 6 - i < (fuel : Int) → (0 ≤ i) → (i ≤ 6) → (f = cN (fun d => decide (σ 18 d 0 = p)) i) → ∀ (H : Heap) (locs : List Loc), WP Dg mcnt ad (mE cA ad σ) H → va_S (WA mcnt ad s₀.heap.size) s₀.heap H locs → ∀ ls : Array Slot, lv_has ls 4 [(3, .int (zi i)), (2, .int (zi f)), (0, .ref (ad 0 0)), (1, .int (zi p))] → W pgm l env ({ frames := 0, cells := 0, slots := 0, locals := 0 } : Room) s₀ m₀ ([.ref (ad 0 0), .int (zi p)] : List Value).toArray bel mth cod H locs 0 0 (MQ bel (va_Qi (fun (rr : Int32) (_ : Unit) => rr = zi (held σ p)) (gB Dg mcnt ad (mE cA ad σ)) (WA mcnt ad s₀.heap.size)) ([.ref (ad 0 0), .int (zi p)] : List Value).toArray s₀ 0 0 (WA mcnt ad s₀.heap.size)) (F0 m₀ 4 ls []) := by
    intro fuel
    induction fuel with
    | zero => intro i f hn i1 i2 i3; exact absurd hn (by omega)
    | succ fuel ih_4 =>
      intro i f hn i1 i2 i3 H locs hW hS ls hl
      refine lv_iload_n hx hb dX8_held_4 rfl (lv_at hl 0 rfl) ?_
      refine k_bipush hC dX8_held_5 (by decide) ?_
      refine k_icmp_ge (tgt := 34) hC dX8_held_7 (by decide) (by omega) (fun c1 => ?_) (fun c1 => ?_)
      · refine lv_iload_n hx hb dX8_held_34 rfl (lv_at hl 1 rfl) ?_
        exact k_iret hX (by unfold held; rw [i3, show i = 6 by omega]) hW hS dX8_held_35
      · refine lv_iload_n hx hb dX8_held_10 rfl (lv_at hl 1 rfl) ?_
        refine lv_aload_n hx hb dX8_held_11 rfl (lv_at hl 2 rfl) ?_
        refine mg_holder hC hW hin_X8 hl_71 dX8_held_12 ?_
        refine lv_iload_n hx hb dX8_held_15 rfl (lv_at hl 0 rfl) ?_
        refine ma_holder hC hW (by omega) (v := σ 18 i 0) rfl dX8_held_16 ?_
        refine lv_iload_n hx hb dX8_held_17 rfl (lv_at hl 3 rfl) ?_
        have hO := (hv.O.1 i (by omega) (by omega)).1
        refine k_icmp_ne (tgt := 25) hC dX8_held_18 (by decide) (by omega) (fun c2 => ?_) (fun c2 => ?_)
        · refine k_iconst hC dX8_held_25 ?_
          refine k_iadd hC dX8_held_26 ?_
          refine lv_istore_n (lv' := [(2, .int (zi (f + 0))), (3, .int (zi i)), (0, .ref (ad 0 0)), (1, .int (zi p))]) hx hb dX8_held_27 rfl hl (by decide) rfl (fun ls hl => ?_)
          refine k_iinc (a := i) (lv' := [(3, .int (zi (i + 1))), (2, .int (zi (f + 0))), (0, .ref (ad 0 0)), (1, .int (zi p))]) hC dX8_held_28 hl (k := 1) rfl (by decide) rfl (fun ls hl => ?_)
          refine lv_goto (tgt := 4) hx hb dX8_held_31 (by decide) ?_
          have hl := Eq.mp (congrArg (fun z : Int => lv_has ls 4 [(3, .int (zi z)), (2, .int (zi (f + 0))), (0, .ref (ad 0 0)), (1, .int (zi p))]) (show (i + 1 : Int) = (i + 1) by omega)) hl
          have hl := Eq.mp (congrArg (fun z : Int => lv_has ls 4 [(3, .int (zi (i + 1))), (2, .int (zi z)), (0, .ref (ad 0 0)), (1, .int (zi p))]) (show (f + 0 : Int) = (f + 0) by omega)) hl
          exact ih_4 (i + 1) (f + 0) (by omega) (by omega) (by omega) (by first | (rw [cN_t _ (by omega) (decide_eq_true (by omega))]; omega) | (rw [cN_f _ (by omega) (decide_eq_false (by omega))]; omega)) _ _ hW hS _ (lv_sub hl [0, 1, 2, 3] rfl)
        · refine k_iconst hC dX8_held_21 ?_
          refine lv_goto (tgt := 26) hx hb dX8_held_22 (by decide) ?_
          refine k_iadd hC dX8_held_26 ?_
          refine lv_istore_n (lv' := [(2, .int (zi (f + 1))), (3, .int (zi i)), (0, .ref (ad 0 0)), (1, .int (zi p))]) hx hb dX8_held_27 rfl hl (by decide) rfl (fun ls hl => ?_)
          refine k_iinc (a := i) (lv' := [(3, .int (zi (i + 1))), (2, .int (zi (f + 1))), (0, .ref (ad 0 0)), (1, .int (zi p))]) hC dX8_held_28 hl (k := 1) rfl (by decide) rfl (fun ls hl => ?_)
          refine lv_goto (tgt := 4) hx hb dX8_held_31 (by decide) ?_
          have hl := Eq.mp (congrArg (fun z : Int => lv_has ls 4 [(3, .int (zi z)), (2, .int (zi (f + 1))), (0, .ref (ad 0 0)), (1, .int (zi p))]) (show (i + 1 : Int) = (i + 1) by omega)) hl
          have hl := Eq.mp (congrArg (fun z : Int => lv_has ls 4 [(3, .int (zi (i + 1))), (2, .int (zi z)), (0, .ref (ad 0 0)), (1, .int (zi p))]) (show (f + 1 : Int) = (f + 1) by omega)) hl
          exact ih_4 (i + 1) (f + 1) (by omega) (by omega) (by omega) (by first | (rw [cN_t _ (by omega) (decide_eq_true (by omega))]; omega) | (rw [cN_f _ (by omega) (decide_eq_false (by omega))]; omega)) _ _ hW hS _ (lv_sub hl [0, 1, 2, 3] rfl)
  exact loop_4 (Int.toNat (6 - 0) + 1) 0 0 (by omega) (by omega) (by omega) rfl _ _ hW hS _ (lv_sub hl [0, 1, 2, 3] rfl)
set_option maxHeartbeats 1000000 in
set_option maxRecDepth 100000 in
theorem n_outOf {l : Launch} {Dg : va_G} {cA : Nat → ClassId} {ad : Nat → Int → Nat} {oc : Nat → Nat} (hI : WI mcnt ad) (σ : St) (d i : Int) (hd : 0 ≤ d ∧ d < 6) (hi : 0 ≤ i ∧ i < σ 17 (6 + d) 0) (h17 : σ 17 (6 + d) 0 ≤ 6) (hq : 0 ≤ σ 16 (6 + d) i ∧ σ 16 (6 + d) i ≤ 5) : GI l yX8_outOf wsX8_outOf ({ frames := 0, cells := 0, slots := 0, locals := 0 } : Room) Dg cA mcnt ad oc (mE cA ad σ) [.ref (ad 0 0), .int (zi d), .int (zi i)] (σ 16 (6 + d) i) (mE cA ad (ups (rAt σ (6 + d) i) 25 (σ 16 (6 + d) i) 0 (-1))) := by
  intro sz
  refine g_ent (cc := cX8_outOf) (maxL := 6) (ret := (some .int)) (by decide) rfl hI (Nat.le_of_ble_eq_true rfl) ?_
  intro pgm env s₀ m₀ bel mth cod hX hW hS hsz ls hl
  subst hsz
  have hC := hX.1
  have hx := hC.1
  have hb := hC.2.1
  have hts := hC.2.2.2.1
  have hl : lv_has ls 6 [(0, .ref (ad 0 0)), (1, .int (zi d)), (2, .int (zi i))] := hl
  have hin_X8 : ∀ w ∈ wsX80, w ∈ wsX8_outOf := by decide +kernel
  have hl_56 := hts (.fieldLink RX8 56 "KioskReelModel" "wanted" "[I") (by decide +kernel)
  have hl_74 := hts (.fieldLink RX8 74 "KioskReelModel" "queue" "[I") (by decide +kernel)
  have hl_77 := hts (.fieldLink RX8 77 "KioskReelModel" "queueMany" "[I") (by decide +kernel)
  refine k_bipush hC dX8_outOf_0 (by decide) ?_
  refine lv_iload_n hx hb dX8_outOf_2 rfl (lv_at hl 1 rfl) ?_
  refine k_imul hC dX8_outOf_3 ?_
  refine lv_istore_n (lv' := [(3, .int (zi (6 * d))), (0, .ref (ad 0 0)), (1, .int (zi d)), (2, .int (zi i))]) hx hb dX8_outOf_4 rfl hl (by decide) rfl (fun ls hl => ?_)
  refine lv_aload_n hx hb dX8_outOf_5 rfl (lv_at hl 1 rfl) ?_
  refine mg_queue hC hW hin_X8 hl_74 dX8_outOf_6 ?_
  refine lv_iload_n hx hb dX8_outOf_9 rfl (lv_at hl 0 rfl) ?_
  refine lv_iload_n hx hb dX8_outOf_10 rfl (lv_at hl 3 rfl) ?_
  refine k_iadd hC dX8_outOf_11 ?_
  refine ma_queue hC hW d i (by omega) (by omega) (by omega) (v := σ 16 (6 + d) i) rfl dX8_outOf_12 ?_
  refine lv_istore (lv' := [(4, .int (zi (σ 16 (6 + d) i))), (3, .int (zi (6 * d))), (0, .ref (ad 0 0)), (1, .int (zi d)), (2, .int (zi i))]) hx hb dX8_outOf_13 hl (by decide) rfl (fun ls hl => ?_)
  refine lv_aload_n hx hb dX8_outOf_15 rfl (lv_at hl 2 rfl) ?_
  refine mg_queueMany hC hW hin_X8 hl_77 dX8_outOf_16 ?_
  refine lv_iload_n hx hb dX8_outOf_19 rfl (lv_at hl 3 rfl) ?_
  refine lv_dup2_11 hx hb dX8_outOf_20 rfl rfl ?_
  refine ma_queueMany hC hW (by omega) (v := σ 17 (6 + d) 0) rfl dX8_outOf_21 ?_
  refine k_iconst hC dX8_outOf_22 ?_
  refine k_isub hC dX8_outOf_23 ?_
  refine ms_queueMany hC hW (by omega) hS dX8_outOf_24 (fun H locs hW hS => ?_)
  obtain ⟨σ1, hσ1⟩ : ∃ z, z = ups σ 17 (6 + d) 0 ((σ 17 (6 + d) 0) - 1) := ⟨_, rfl⟩
  rw [← hσ1] at hW
  refine lv_iload_n hx hb dX8_outOf_25 rfl (lv_at hl 1 rfl) ?_
  refine lv_iload_n hx hb dX8_outOf_26 rfl (lv_at hl 4 rfl) ?_
  refine k_iadd hC dX8_outOf_27 ?_
  refine lv_istore (lv' := [(5, .int (zi ((6 * d) + i))), (4, .int (zi (σ 16 (6 + d) i))), (3, .int (zi (6 * d))), (0, .ref (ad 0 0)), (1, .int (zi d)), (2, .int (zi i))]) hx hb dX8_outOf_28 hl (by decide) rfl (fun ls hl => ?_)
  have loop_30 : ∀ (fuel : Nat) (q : Int), σ 17 (6 + d) 0 - 1 - q < (fuel : Int) → (i ≤ q) → (q ≤ σ 17 (6 + d) 0 - 1) → ∀ (H : Heap) (locs : List Loc), WP Dg mcnt ad (mE cA ad (shL (ups σ 17 (6 + d) 0 (σ 17 (6 + d) 0 - 1)) (6 + d) i q)) H → va_S (WA mcnt ad s₀.heap.size) s₀.heap H locs → ∀ ls : Array Slot, lv_has ls 6 [(5, .int (zi (6 * d + q))), (4, .int (zi (σ 16 (6 + d) i))), (3, .int (zi (6 * d))), (0, .ref (ad 0 0)), (1, .int (zi d)), (2, .int (zi i))] → W pgm l env ({ frames := 0, cells := 0, slots := 0, locals := 0 } : Room) s₀ m₀ ([.ref (ad 0 0), .int (zi d), .int (zi i)] : List Value).toArray bel mth cod H locs 0 0 (MQ bel (va_Qi (fun (rr : Int32) (_ : Unit) => rr = zi (σ 16 (6 + d) i)) (gB Dg mcnt ad (mE cA ad (ups (rAt σ (6 + d) i) 25 (σ 16 (6 + d) i) 0 (-1)))) (WA mcnt ad s₀.heap.size)) ([.ref (ad 0 0), .int (zi d), .int (zi i)] : List Value).toArray s₀ 0 0 (WA mcnt ad s₀.heap.size)) (F0 m₀ 30 ls []) := by
    intro fuel
    induction fuel with
    | zero => intro q hn j1 j2; exact absurd hn (by omega)
    | succ fuel ih_30 =>
      intro q hn j1 j2 H locs hW hS ls hl
      obtain ⟨σ2, hσ2⟩ : ∃ z, z = shL (ups σ 17 (6 + d) 0 (σ 17 (6 + d) 0 - 1)) (6 + d) i q := ⟨_, rfl⟩
      rw [← hσ2] at hW
      refine lv_iload hx hb dX8_outOf_30 (lv_at hl 0 rfl) ?_
      refine lv_iload_n hx hb dX8_outOf_32 rfl (lv_at hl 2 rfl) ?_
      refine lv_aload_n hx hb dX8_outOf_33 rfl (lv_at hl 3 rfl) ?_
      refine mg_queueMany hC hW hin_X8 hl_77 dX8_outOf_34 ?_
      refine lv_iload_n hx hb dX8_outOf_37 rfl (lv_at hl 4 rfl) ?_
      refine ma_queueMany hC hW (by omega) (v := σ 17 (6 + d) 0 - 1) (by rw [hσ2, shL_o _ _ _ _ (by decide), ups_eq]) dX8_outOf_38 ?_
      refine k_iadd hC dX8_outOf_39 ?_
      refine k_icmp_ge (tgt := 65) hC dX8_outOf_40 (by decide) (by omega) (fun c1 => ?_) (fun c1 => ?_)
      · refine lv_aload_n hx hb dX8_outOf_65 rfl (lv_at hl 3 rfl) ?_
        refine mg_wanted hC hW hin_X8 hl_56 dX8_outOf_66 ?_
        refine lv_iload hx hb dX8_outOf_69 (lv_at hl 1 rfl) ?_
        refine k_iconst hC dX8_outOf_71 ?_
        refine ms_wanted hC hW (by omega) hS dX8_outOf_72 (fun H locs hW hS => ?_)
        obtain ⟨σ3, hσ3⟩ : ∃ z, z = ups σ2 25 (σ 16 (6 + d) i) 0 (-1) := ⟨_, rfl⟩
        rw [← hσ3] at hW
        refine lv_iload hx hb dX8_outOf_73 (lv_at hl 1 rfl) ?_
        have hW : WP Dg mcnt ad (mE cA ad (ups (rAt σ (6 + d) i) 25 (σ 16 (6 + d) i) 0 (-1))) _ := (sw hW (by rw [hσ3, hσ2, show q = σ 17 (6 + d) 0 - 1 by omega, shL_ups _ (by decide)]; rfl))
        exact k_iret hX rfl hW hS dX8_outOf_75
      · refine lv_aload_n hx hb dX8_outOf_43 rfl (lv_at hl 3 rfl) ?_
        refine mg_queue hC hW hin_X8 hl_74 dX8_outOf_44 ?_
        refine lv_iload hx hb dX8_outOf_47 (lv_at hl 0 rfl) ?_
        refine lv_aload_n hx hb dX8_outOf_49 rfl (lv_at hl 3 rfl) ?_
        refine mg_queue hC hW hin_X8 hl_74 dX8_outOf_50 ?_
        refine lv_iload hx hb dX8_outOf_53 (lv_at hl 0 rfl) ?_
        refine k_iconst hC dX8_outOf_55 ?_
        refine k_iadd hC dX8_outOf_56 ?_
        refine ma_queue hC hW d (q + 1) (by omega) (by omega) (by omega) (v := σ 16 (6 + d) (q + 1)) (by rw [hσ2, shL_rd _ _ _ (by omega), ups_t _ (by decide)]) dX8_outOf_57 ?_
        refine ms_queue hC hW d q (by omega) (by omega) (by omega) hS dX8_outOf_58 (fun H locs hW hS => ?_)
        obtain ⟨σ4, hσ4⟩ : ∃ z, z = ups σ2 16 (6 + d) q (σ 16 (6 + d) (q + 1)) := ⟨_, rfl⟩
        rw [← hσ4] at hW
        refine k_iinc (a := 6 * d + q) (lv' := [(5, .int (zi ((6 * d + q) + 1))), (4, .int (zi (σ 16 (6 + d) i))), (3, .int (zi (6 * d))), (0, .ref (ad 0 0)), (1, .int (zi d)), (2, .int (zi i))]) hC dX8_outOf_59 hl (k := 0) rfl (by decide) rfl (fun ls hl => ?_)
        refine lv_goto (tgt := 30) hx hb dX8_outOf_62 (by decide) ?_
        have hl := Eq.mp (congrArg (fun z : Int => lv_has ls 6 [(5, .int (zi z)), (4, .int (zi (σ 16 (6 + d) i))), (3, .int (zi (6 * d))), (0, .ref (ad 0 0)), (1, .int (zi d)), (2, .int (zi i))]) (show ((6 * d + q) + 1 : Int) = 6 * d + (q + 1) by omega)) hl
        exact ih_30 (q + 1) (by omega) (by omega) (by omega) _ _ (sw hW (by rw [hσ4, hσ2]; have z := shL_s (ups σ 17 (6 + d) 0 (σ 17 (6 + d) 0 - 1)) (w := 6 + d) (j0 := i) (m := q) (by omega); rw [ups_t _ (by decide)] at z; exact z)) hS _ (lv_sub hl [0, 1, 2, 3, 4, 5] rfl)
  have hl := Eq.mp (congrArg (fun z : Int => lv_has ls 6 [(5, .int (zi z)), (4, .int (zi (σ 16 (6 + d) i))), (3, .int (zi (6 * d))), (0, .ref (ad 0 0)), (1, .int (zi d)), (2, .int (zi i))]) (show ((6 * d) + i : Int) = 6 * d + i by omega)) hl
  exact loop_30 (Int.toNat (σ 17 (6 + d) 0 - 1 - i) + 1) i (by omega) (by omega) (by omega) _ _ (sw hW (by rw [hσ1]; exact (shL_0 _ _ (Int.le_refl _)).symm)) hS _ (lv_sub hl [0, 1, 2, 3, 4, 5] rfl)
set_option maxHeartbeats 1000000 in
set_option maxRecDepth 100000 in
theorem n_frees {l : Launch} {Dg : va_G} {cA : Nat → ClassId} {ad : Nat → Int → Nat} {oc : Nat → Nat} (hI : WI mcnt ad) (σ : St) (d : Int) (hd : 0 ≤ d ∧ d < 6) (hW0 : IvW σ) : GV l yX8_frees wsX8_frees ({ frames := 1, cells := 0, slots := 0, locals := 25 } : Room) Dg cA mcnt ad oc (mE cA ad σ) [.ref (ad 0 0), .int (zi d)] (mE cA ad (fPass σ d)) := by
  intro sz
  refine g_ent (cc := cX8_frees) (maxL := 2) (ret := none) (by decide) rfl hI (Nat.le_of_ble_eq_true rfl) ?_
  intro pgm env s₀ m₀ bel mth cod hX hW hS hsz ls hl
  subst hsz
  have hC := hX.1
  have hx := hC.1
  have hb := hC.2.1
  have hts := hC.2.2.2.1
  have hl : lv_has ls 2 [(0, .ref (ad 0 0)), (1, .int (zi d))] := hl
  have hin_X8 : ∀ w ∈ wsX80, w ∈ wsX8_frees := by decide +kernel
  have hl_71 := hts (.fieldLink RX8 71 "KioskReelModel" "holder" "[I") (by decide +kernel)
  have hl_77 := hts (.fieldLink RX8 77 "KioskReelModel" "queueMany" "[I") (by decide +kernel)
  obtain ⟨w1, w2, w3⟩ := hW0 (6 + d) (by omega) (by omega)
  have w4 := w2 0 (by omega) (by omega)
  refine lv_aload_n hx hb dX8_frees_0 rfl (lv_at hl 0 rfl) ?_
  refine mg_holder hC hW hin_X8 hl_71 dX8_frees_1 ?_
  refine lv_iload_n hx hb dX8_frees_4 rfl (lv_at hl 1 rfl) ?_
  refine lv_aload_n hx hb dX8_frees_5 rfl (lv_at hl 0 rfl) ?_
  refine mg_queueMany hC hW hin_X8 hl_77 dX8_frees_6 ?_
  refine lv_iload_n hx hb dX8_frees_9 rfl (lv_at hl 1 rfl) ?_
  refine ma_queueMany hC hW (by omega) (v := σ 17 (6 + d) 0) rfl dX8_frees_10 ?_
  refine k_if_ne (tgt := 18) hC dX8_frees_11 (by decide) (by omega) (fun c1 => ?_) (fun c1 => ?_)
  · refine lv_aload_n hx hb dX8_frees_18 rfl (lv_at hl 0 rfl) ?_
    refine lv_iload_n hx hb dX8_frees_19 rfl (lv_at hl 1 rfl) ?_
    refine k_iconst hC dX8_frees_20 ?_
    refine k_callI (As := [.int (zi d), .int (zi 0)]) (rest := [.int (zi d), .ref (ad 21 0)]) hX hl.1 (n_outOf hI σ d 0 hd (by omega) w1.2 w4) (cwV 2 hts gX8_frees_X8_outOf rfl rfl rfl (by decide +kernel) ⟨Nat.le_of_ble_eq_true rfl, Nat.le_of_ble_eq_true rfl⟩) (rc_M hC hW) hW hS ⟨Nat.zero_le _, Nat.zero_le _⟩ rfl rfl (Nat.le_of_ble_eq_true rfl) dX8_frees_21 (fun H locs hW hS _ _ => ?_)
    obtain ⟨σ1, hσ1⟩ : ∃ z, z = ups (rAt σ (6 + d) 0) 25 (σ 16 (6 + d) 0) 0 (-1) := ⟨_, rfl⟩
    rw [← hσ1] at hW
    refine ms_holder hC hW (by omega) hS dX8_frees_24 (fun H locs hW hS => ?_)
    obtain ⟨σ2, hσ2⟩ : ∃ z, z = ups σ1 18 d 0 (σ 16 (6 + d) 0) := ⟨_, rfl⟩
    rw [← hσ2] at hW
    have hW : WP Dg mcnt ad (mE cA ad (fPass σ d)) _ := (by first | exact sw hW (by rw [hσ2, hσ1, fPass, if_pos (by omega)]) | exact freesM_end hW (by omega) (by rw [hσ2, hσ1]))
    exact k_vret hX hW hS dX8_frees_25
  · refine k_iconst hC dX8_frees_14 ?_
    refine lv_goto (tgt := 24) hx hb dX8_frees_15 (by decide) ?_
    refine ms_holder hC hW (by omega) hS dX8_frees_24 (fun H locs hW hS => ?_)
    obtain ⟨σ3, hσ3⟩ : ∃ z, z = ups σ 18 d 0 (-1) := ⟨_, rfl⟩
    rw [← hσ3] at hW
    have hW : WP Dg mcnt ad (mE cA ad (fPass σ d)) _ := (by first | exact sw hW (by rw [hσ3, fPass, if_pos (by omega)]) | exact freesM_end hW (by omega) (by rw [hσ3]))
    exact k_vret hX hW hS dX8_frees_25
set_option maxHeartbeats 1000000 in
set_option maxRecDepth 100000 in
theorem n_present {l : Launch} {Dg : va_G} {cA : Nat → ClassId} {ad : Nat → Int → Nat} {oc : Nat → Nat} (hI : WI mcnt ad) {N M : Int} (σ : St) (k : Int) (hv : Inv N M σ) (hk : -2147483648 ≤ k ∧ k < 2147483648) : GI l yX8_present wsX8_present ({ frames := 0, cells := 0, slots := 0, locals := 0 } : Room) Dg cA mcnt ad oc (mE cA ad σ) [.ref (ad 0 0), .int (zi k)] (cN (fun v => decide (σ 22 v 0 = k)) (σ 28 0 0)) (mE cA ad σ) := by
  intro sz
  refine g_ent (cc := cX8_present) (maxL := 4) (ret := (some .int)) (by decide) rfl hI (Nat.le_of_ble_eq_true rfl) ?_
  intro pgm env s₀ m₀ bel mth cod hX hW hS hsz ls hl
  subst hsz
  have hC := hX.1
  have hx := hC.1
  have hb := hC.2.1
  have hts := hC.2.2.2.1
  have hl : lv_has ls 4 [(0, .ref (ad 0 0)), (1, .int (zi k))] := hl
  have hin_X8 : ∀ w ∈ wsX80, w ∈ wsX8_present := by decide +kernel
  have hl_83 := hts (.fieldLink RX8 83 "KioskReelModel" "place" "[I") (by decide +kernel)
  have hl_173 := hts (.fieldLink RX8 173 "KioskReelModel" "visitors" "I") (by decide +kernel)
  have hA := hv.A
  unfold IvA at hA
  refine k_iconst hC dX8_present_0 ?_
  refine lv_istore_n (lv' := [(2, .int (zi 0)), (0, .ref (ad 0 0)), (1, .int (zi k))]) hx hb dX8_present_1 rfl hl (by decide) rfl (fun ls hl => ?_)
  refine k_iconst hC dX8_present_2 ?_
  refine lv_istore_n (lv' := [(3, .int (zi 0)), (2, .int (zi 0)), (0, .ref (ad 0 0)), (1, .int (zi k))]) hx hb dX8_present_3 rfl hl (by decide) rfl (fun ls hl => ?_)
  have loop_4 : ∀ (fuel : Nat) (i : Int) (f : Int), σ 28 0 0 - i < (fuel : Int) → (0 ≤ i) → (i ≤ σ 28 0 0) → (f = cN (fun v => decide (σ 22 v 0 = k)) i) → ∀ (H : Heap) (locs : List Loc), WP Dg mcnt ad (mE cA ad σ) H → va_S (WA mcnt ad s₀.heap.size) s₀.heap H locs → ∀ ls : Array Slot, lv_has ls 4 [(3, .int (zi i)), (2, .int (zi f)), (0, .ref (ad 0 0)), (1, .int (zi k))] → W pgm l env ({ frames := 0, cells := 0, slots := 0, locals := 0 } : Room) s₀ m₀ ([.ref (ad 0 0), .int (zi k)] : List Value).toArray bel mth cod H locs 0 0 (MQ bel (va_Qi (fun (rr : Int32) (_ : Unit) => rr = zi (cN (fun v => decide (σ 22 v 0 = k)) (σ 28 0 0))) (gB Dg mcnt ad (mE cA ad σ)) (WA mcnt ad s₀.heap.size)) ([.ref (ad 0 0), .int (zi k)] : List Value).toArray s₀ 0 0 (WA mcnt ad s₀.heap.size)) (F0 m₀ 4 ls []) := by
    intro fuel
    induction fuel with
    | zero => intro i f hn i1 i2 i3; exact absurd hn (by omega)
    | succ fuel ih_4 =>
      intro i f hn i1 i2 i3 H locs hW hS ls hl
      refine lv_iload_n hx hb dX8_present_4 rfl (lv_at hl 0 rfl) ?_
      refine lv_aload_n hx hb dX8_present_5 rfl (lv_at hl 2 rfl) ?_
      refine mg_visitors_f hC hW hin_X8 hl_173 (v := σ 28 0 0) rfl dX8_present_6 ?_
      refine k_icmp_ge (tgt := 36) hC dX8_present_9 (by decide) (by omega) (fun c1 => ?_) (fun c1 => ?_)
      · refine lv_iload_n hx hb dX8_present_36 rfl (lv_at hl 1 rfl) ?_
        exact k_iret hX (by rw [i3, show i = σ 28 0 0 by omega]) hW hS dX8_present_37
      · refine lv_iload_n hx hb dX8_present_12 rfl (lv_at hl 1 rfl) ?_
        refine lv_aload_n hx hb dX8_present_13 rfl (lv_at hl 2 rfl) ?_
        refine mg_place hC hW hin_X8 hl_83 dX8_present_14 ?_
        refine lv_iload_n hx hb dX8_present_17 rfl (lv_at hl 0 rfl) ?_
        refine ma_place hC hW (by omega) (v := σ 22 i 0) rfl dX8_present_18 ?_
        refine lv_iload_n hx hb dX8_present_19 rfl (lv_at hl 3 rfl) ?_
        have hV := (hv.V i (by omega) (by omega)).1
        refine k_icmp_ne (tgt := 27) hC dX8_present_20 (by decide) (by omega) (fun c2 => ?_) (fun c2 => ?_)
        · refine k_iconst hC dX8_present_27 ?_
          refine k_iadd hC dX8_present_28 ?_
          refine lv_istore_n (lv' := [(2, .int (zi (f + 0))), (3, .int (zi i)), (0, .ref (ad 0 0)), (1, .int (zi k))]) hx hb dX8_present_29 rfl hl (by decide) rfl (fun ls hl => ?_)
          refine k_iinc (a := i) (lv' := [(3, .int (zi (i + 1))), (2, .int (zi (f + 0))), (0, .ref (ad 0 0)), (1, .int (zi k))]) hC dX8_present_30 hl (k := 1) rfl (by decide) rfl (fun ls hl => ?_)
          refine lv_goto (tgt := 4) hx hb dX8_present_33 (by decide) ?_
          have hl := Eq.mp (congrArg (fun z : Int => lv_has ls 4 [(3, .int (zi z)), (2, .int (zi (f + 0))), (0, .ref (ad 0 0)), (1, .int (zi k))]) (show (i + 1 : Int) = (i + 1) by omega)) hl
          have hl := Eq.mp (congrArg (fun z : Int => lv_has ls 4 [(3, .int (zi (i + 1))), (2, .int (zi z)), (0, .ref (ad 0 0)), (1, .int (zi k))]) (show (f + 0 : Int) = (f + 0) by omega)) hl
          exact ih_4 (i + 1) (f + 0) (by omega) (by omega) (by omega) (by first | (rw [cN_t _ (by omega) (decide_eq_true (by omega))]; omega) | (rw [cN_f _ (by omega) (decide_eq_false (by omega))]; omega)) _ _ hW hS _ (lv_sub hl [0, 1, 2, 3] rfl)
        · refine k_iconst hC dX8_present_23 ?_
          refine lv_goto (tgt := 28) hx hb dX8_present_24 (by decide) ?_
          refine k_iadd hC dX8_present_28 ?_
          refine lv_istore_n (lv' := [(2, .int (zi (f + 1))), (3, .int (zi i)), (0, .ref (ad 0 0)), (1, .int (zi k))]) hx hb dX8_present_29 rfl hl (by decide) rfl (fun ls hl => ?_)
          refine k_iinc (a := i) (lv' := [(3, .int (zi (i + 1))), (2, .int (zi (f + 1))), (0, .ref (ad 0 0)), (1, .int (zi k))]) hC dX8_present_30 hl (k := 1) rfl (by decide) rfl (fun ls hl => ?_)
          refine lv_goto (tgt := 4) hx hb dX8_present_33 (by decide) ?_
          have hl := Eq.mp (congrArg (fun z : Int => lv_has ls 4 [(3, .int (zi z)), (2, .int (zi (f + 1))), (0, .ref (ad 0 0)), (1, .int (zi k))]) (show (i + 1 : Int) = (i + 1) by omega)) hl
          have hl := Eq.mp (congrArg (fun z : Int => lv_has ls 4 [(3, .int (zi (i + 1))), (2, .int (zi z)), (0, .ref (ad 0 0)), (1, .int (zi k))]) (show (f + 1 : Int) = (f + 1) by omega)) hl
          exact ih_4 (i + 1) (f + 1) (by omega) (by omega) (by omega) (by first | (rw [cN_t _ (by omega) (decide_eq_true (by omega))]; omega) | (rw [cN_f _ (by omega) (decide_eq_false (by omega))]; omega)) _ _ hW hS _ (lv_sub hl [0, 1, 2, 3] rfl)
  exact loop_4 (Int.toNat (σ 28 0 0 - 0) + 1) 0 0 (by omega) (by omega) (by omega) rfl _ _ hW hS _ (lv_sub hl [0, 1, 2, 3] rfl)
set_option maxHeartbeats 1000000 in
set_option maxRecDepth 100000 in
theorem n_sees {l : Launch} {Dg : va_G} {cA : Nat → ClassId} {ad : Nat → Int → Nat} {oc : Nat → Nat} (hI : WI mcnt ad) (σ : St) (v k n : Int) (h1 : 0 ≤ v ∧ v < 10) (h2 : 0 ≤ n ∧ n < 100) (hk : -2147483648 ≤ k ∧ k < 2147483648) (h22 : -1 ≤ σ 22 v 0 ∧ σ 22 v 0 < 6) (h19 : 0 ≤ σ 19 v n ∧ σ 19 v n < 2147483648) (h21 : σ 21 v n = 0 ∨ σ 21 v n = 1) : GI l yX8_sees wsX8_sees ({ frames := 0, cells := 0, slots := 0, locals := 0 } : Room) Dg cA mcnt ad oc (mE cA ad σ) [.ref (ad 0 0), .int (zi v), .int (zi k), .int (zi n)] (if wouldB σ k n v = true then 1 else 0) (mE cA ad σ) := by
  intro sz
  refine g_ent (cc := cX8_sees) (maxL := 5) (ret := (some .boolean)) (by decide) rfl hI (Nat.le_of_ble_eq_true rfl) ?_
  intro pgm env s₀ m₀ bel mth cod hX hW hS hsz ls hl
  subst hsz
  have hC := hX.1
  have hx := hC.1
  have hb := hC.2.1
  have hts := hC.2.2.2.1
  have hl : lv_has ls 5 [(0, .ref (ad 0 0)), (1, .int (zi v)), (2, .int (zi k)), (3, .int (zi n))] := hl
  have hin_X8 : ∀ w ∈ wsX80, w ∈ wsX8_sees := by decide +kernel
  have hl_80 := hts (.fieldLink RX8 80 "KioskReelModel" "saw" "[I") (by decide +kernel)
  have hl_83 := hts (.fieldLink RX8 83 "KioskReelModel" "place" "[I") (by decide +kernel)
  have hl_86 := hts (.fieldLink RX8 86 "KioskReelModel" "asked" "[Z") (by decide +kernel)
  have w := wouldB_iff σ k n v
  refine k_bipush hC dX8_sees_0 (by decide) ?_
  refine lv_iload_n hx hb dX8_sees_2 rfl (lv_at hl 1 rfl) ?_
  refine k_imul hC dX8_sees_3 ?_
  refine lv_iload_n hx hb dX8_sees_4 rfl (lv_at hl 3 rfl) ?_
  refine k_iadd hC dX8_sees_5 ?_
  refine lv_istore (lv' := [(4, .int (zi ((100 * v) + n))), (0, .ref (ad 0 0)), (1, .int (zi v)), (2, .int (zi k)), (3, .int (zi n))]) hx hb dX8_sees_6 hl (by decide) rfl (fun ls hl => ?_)
  refine lv_aload_n hx hb dX8_sees_8 rfl (lv_at hl 1 rfl) ?_
  refine mg_place hC hW hin_X8 hl_83 dX8_sees_9 ?_
  refine lv_iload_n hx hb dX8_sees_12 rfl (lv_at hl 2 rfl) ?_
  refine ma_place hC hW (by omega) (v := σ 22 v 0) rfl dX8_sees_13 ?_
  refine lv_iload_n hx hb dX8_sees_14 rfl (lv_at hl 3 rfl) ?_
  refine k_icmp_ne (tgt := 42) hC dX8_sees_15 (by decide) (by omega) (fun c1 => ?_) (fun c1 => ?_)
  · refine k_iconst hC dX8_sees_42 ?_
    exact k_zret hX (by omega) (by first | rw [if_pos (w.mpr (by omega))] | rw [if_neg (fun z => by have := w.mp z; omega)]) hW hS dX8_sees_43
  · refine lv_aload_n hx hb dX8_sees_18 rfl (lv_at hl 1 rfl) ?_
    refine mg_saw hC hW hin_X8 hl_80 dX8_sees_19 ?_
    refine lv_iload hx hb dX8_sees_22 (lv_at hl 0 rfl) ?_
    refine ma_saw hC hW v n (by omega) (by omega) (by omega) (v := σ 19 v n) rfl dX8_sees_24 ?_
    refine k_if_eq (tgt := 38) hC dX8_sees_25 (by decide) (by omega) (fun c2 => ?_) (fun c2 => ?_)
    · refine k_iconst hC dX8_sees_38 ?_
      refine lv_goto (tgt := 43) hx hb dX8_sees_39 (by decide) ?_
      exact k_zret hX (by omega) (by first | rw [if_pos (w.mpr (by omega))] | rw [if_neg (fun z => by have := w.mp z; omega)]) hW hS dX8_sees_43
    · refine lv_aload_n hx hb dX8_sees_28 rfl (lv_at hl 1 rfl) ?_
      refine mg_asked hC hW hin_X8 hl_86 dX8_sees_29 ?_
      refine lv_iload hx hb dX8_sees_32 (lv_at hl 0 rfl) ?_
      refine ma_asked hC hW v n (by omega) (by omega) (by omega) (v := σ 21 v n) rfl dX8_sees_34 ?_
      refine k_if_eq (tgt := 42) hC dX8_sees_35 (by decide) (by omega) (fun c3 => ?_) (fun c3 => ?_)
      · refine k_iconst hC dX8_sees_42 ?_
        exact k_zret hX (by omega) (by first | rw [if_pos (w.mpr (by omega))] | rw [if_neg (fun z => by have := w.mp z; omega)]) hW hS dX8_sees_43
      · refine k_iconst hC dX8_sees_38 ?_
        refine lv_goto (tgt := 43) hx hb dX8_sees_39 (by decide) ?_
        exact k_zret hX (by omega) (by first | rw [if_pos (w.mpr (by omega))] | rw [if_neg (fun z => by have := w.mp z; omega)]) hW hS dX8_sees_43
end M6
