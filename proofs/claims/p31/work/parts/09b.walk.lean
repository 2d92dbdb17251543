section M14
/-- what the constructors lay from b on -/
def reelF (cA : Nat → ClassId) (b : Nat) : Nat → va_E := fun k => match k with
  | 0 => .inr (6, [.ref (b + 1), .ref (b + 2), .int (zi 0)])
  | 1 => .inl (cA 0, 20, .inl (fun _ => zi 0))
  | _ => .inl (cA 1, 20, .inl (fun _ => zi 0))
def rowF (cA : Nat → ClassId) (b : Nat) : Nat → va_E := fun k => match k with
  | 0 => .inr (5, [.ref (b + 1), .int (zi 0)])
  | _ => .inl (cA 1, 6, .inl (fun _ => zi 0))
def visF (cA : Nat → ClassId) (b : Nat) : Nat → va_E := fun k => match k with
  | 0 => .inr (7, [.ref (b + 1), .ref (b + 2), .ref (b + 3), .int (zi (-1))])
  | 1 => .inl (cA 1, 100, .inl (fun _ => zi 0))
  | 2 => .inl (cA 1, 100, .inl (fun _ => zi 0))
  | _ => .inl (cA 2, 100, .inl (fun _ => zi 0))
def devF (cA : Nat → ClassId) (b : Nat) : Nat → va_E := fun k => match k with
  | 0 => .inr (2, [.ref (b + 1), .int (zi (-1))])
  | 1 => .inr (5, [.ref (b + 2), .int (zi 0)])
  | _ => .inl (cA 1, 6, .inl (fun _ => zi 0))
def kioF (cA : Nat → ClassId) (b : Nat) : Nat → va_E := fun k => match k with
  | 0 => .inr (3, [.ref (b + 1), .int (zi 0), .int (zi 0), .int (zi 0), .int (zi (-1))])
  | 1 => .inr (5, [.ref (b + 2), .int (zi 0)])
  | _ => .inl (cA 1, 6, .inl (fun _ => zi 0))
def pilR (b : Nat) : Nat → Option Nat := va_up (va_up (va_up (va_up (fun _ => none) 0 (some (b + 3))) 1 (some (b + 6))) 2 (some (b + 9))) 3 (some (b + 12))
def plaF (cA : Nat → ClassId) (b : Nat) : Nat → va_E := fun k => match k with
  | 0 => .inr (4, [.ref (b + 1), .ref (b + 2), .int (zi 1), .int (zi 0), .int (zi 0), .int (zi (-1)), .int (zi 0), .int (zi 0), .int (zi (-1))])
  | 1 => .inl (cA 3, 4, .inr (.inr (.inr (.inr (pilR b)))))
  | 2 => .inl (cA 1, 4, .inl (fun _ => zi 0))
  | k + 3 => reelF cA (b + 3 + 3 * (k / 3)) (k % 3)
set_option maxHeartbeats 2000000 in
set_option maxRecDepth 100000 in
theorem c_X5 {l : Launch} {Dg : va_G} {cA : Nat → ClassId} (b : Nat) : GN l yX5_init wsX5_init ({ frames := 1, cells := 2, slots := 40, locals := 12 } : Room) Dg cA b 6 [.null, .null, .int (zi 0)] 3 (reelF cA b) 2 40 := by
  refine n_ent (cc := cX5_init) (maxL := 1) (by decide) rfl rfl (by decide) ?_
  intro pgm env s₀ m₀ bel mth cod hC hH hS ls hl
  have hx := hC.1
  have hb := hC.2.1
  have hts := hC.2.2.2.1
  have hX := cx0 hC
  have hin_X5 : ∀ w ∈ wsX50, w ∈ wsX5_init := by decide +kernel
  refine lv_aload_n hx hb dX5_init_0 rfl (lv_at hl 0 rfl) ?_
  refine h_obj hC hl.1 (by decide +kernel : Cond.methodLink RX5 3 objectInit ∈ wsX5_init) (by decide +kernel) (by decide +kernel) dX5_init_1 ⟨Nat.le_of_ble_eq_true rfl, Nat.le_of_ble_eq_true rfl⟩ ?_
  refine lv_aload_n hx hb dX5_init_4 rfl (lv_at hl 0 rfl) ?_
  refine k_bipush hX dX5_init_5 (by decide) ?_
  refine h_newa (ty := .char) 0 (M := 20) hC (hts _ (by decide +kernel)) rfl rfl (Or.inl rfl) rfl (by decide) hH hS (Nat.le_of_ble_eq_true rfl) (Nat.le_of_ble_eq_true rfl) dX5_init_7 (fun H hH hS => ?_)
  refine h_put (fs := [.null, .null, .int (zi 0)]) (T := TX5) (N := 3) (ci := 6) (v := .ref (b + 1)) hC hin_X5 tyX5 tyX5_ok nmX5 rfl 0 (by decide) (hts (.fieldLink RX5 9 "KioskReel$Reel" "kinds" "[C") (by decide +kernel)) rfl (tyX5_ok 0 (by decide)) rfl rfl (Nat.le_of_ble_eq_true rfl) (Nat.le_of_ble_eq_true rfl) rfl hH hS dX5_init_9 (fun H locs hH hS => ?_)
  refine lv_aload_n hx hb dX5_init_12 rfl (lv_at hl 0 rfl) ?_
  refine k_bipush hX dX5_init_13 (by decide) ?_
  refine h_newa (ty := .int) 1 (M := 20) hC (hts _ (by decide +kernel)) rfl rfl (Or.inr (Or.inl rfl)) rfl (by decide) hH hS (Nat.le_of_ble_eq_true rfl) (Nat.le_of_ble_eq_true rfl) dX5_init_15 (fun H hH hS => ?_)
  refine h_put (fs := [.ref (b + 1), .null, .int (zi 0)]) (T := TX5) (N := 3) (ci := 6) (v := .ref (b + 2)) hC hin_X5 tyX5 tyX5_ok nmX5 rfl 1 (by decide) (hts (.fieldLink RX5 15 "KioskReel$Reel" "numbers" "[I") (by decide +kernel)) rfl (tyX5_ok 1 (by decide)) rfl rfl (Nat.le_of_ble_eq_true rfl) (Nat.le_of_ble_eq_true rfl) rfl hH hS dX5_init_17 (fun H locs hH hS => ?_)
  have hH := hH.conv (g := reelF cA b) (fun k hk => match k, hk with | 0, _ => rfl | 1, _ => rfl | 2, _ => rfl | k + 3, h => absurd h (by omega))
  exact h_ret hC hH hS dX5_init_20
set_option maxHeartbeats 2000000 in
set_option maxRecDepth 100000 in
theorem c_X4 {l : Launch} {Dg : va_G} {cA : Nat → ClassId} (b : Nat) : GN l yX4_init wsX4_init ({ frames := 1, cells := 1, slots := 6, locals := 12 } : Room) Dg cA b 5 [.null, .int (zi 0)] 2 (rowF cA b) 1 6 := by
  refine n_ent (cc := cX4_init) (maxL := 1) (by decide) rfl rfl (by decide) ?_
  intro pgm env s₀ m₀ bel mth cod hC hH hS ls hl
  have hx := hC.1
  have hb := hC.2.1
  have hts := hC.2.2.2.1
  have hX := cx0 hC
  have hin_X4 : ∀ w ∈ wsX40, w ∈ wsX4_init := by decide +kernel
  refine lv_aload_n hx hb dX4_init_0 rfl (lv_at hl 0 rfl) ?_
  refine h_obj hC hl.1 (by decide +kernel : Cond.methodLink RX4 3 objectInit ∈ wsX4_init) (by decide +kernel) (by decide +kernel) dX4_init_1 ⟨Nat.le_of_ble_eq_true rfl, Nat.le_of_ble_eq_true rfl⟩ ?_
  refine lv_aload_n hx hb dX4_init_4 rfl (lv_at hl 0 rfl) ?_
  refine k_bipush hX dX4_init_5 (by decide) ?_
  refine h_newa (ty := .int) 1 (M := 6) hC (hts _ (by decide +kernel)) rfl rfl (Or.inr (Or.inl rfl)) rfl (by decide) hH hS (Nat.le_of_ble_eq_true rfl) (Nat.le_of_ble_eq_true rfl) dX4_init_7 (fun H hH hS => ?_)
  refine h_put (fs := [.null, .int (zi 0)]) (T := TX4) (N := 2) (ci := 5) (v := .ref (b + 1)) hC hin_X4 tyX4 tyX4_ok nmX4 rfl 0 (by decide) (hts (.fieldLink RX4 9 "KioskReel$PlayerRow" "members" "[I") (by decide +kernel)) rfl (tyX4_ok 0 (by decide)) rfl rfl (Nat.le_of_ble_eq_true rfl) (Nat.le_of_ble_eq_true rfl) rfl hH hS dX4_init_9 (fun H locs hH hS => ?_)
  have hH := hH.conv (g := rowF cA b) (fun k hk => match k, hk with | 0, _ => rfl | 1, _ => rfl | k + 2, h => absurd h (by omega))
  exact h_ret hC hH hS dX4_init_12
set_option maxHeartbeats 2000000 in
set_option maxRecDepth 100000 in
theorem c_X6 {l : Launch} {Dg : va_G} {cA : Nat → ClassId} (b : Nat) : GN l yX6_init wsX6_init ({ frames := 1, cells := 3, slots := 300, locals := 12 } : Room) Dg cA b 7 [.null, .null, .null, .int (zi 0)] 4 (visF cA b) 3 300 := by
  refine n_ent (cc := cX6_init) (maxL := 1) (by decide) rfl rfl (by decide) ?_
  intro pgm env s₀ m₀ bel mth cod hC hH hS ls hl
  have hx := hC.1
  have hb := hC.2.1
  have hts := hC.2.2.2.1
  have hX := cx0 hC
  have hin_X6 : ∀ w ∈ wsX60, w ∈ wsX6_init := by decide +kernel
  refine lv_aload_n hx hb dX6_init_0 rfl (lv_at hl 0 rfl) ?_
  refine h_obj hC hl.1 (by decide +kernel : Cond.methodLink RX6 3 objectInit ∈ wsX6_init) (by decide +kernel) (by decide +kernel) dX6_init_1 ⟨Nat.le_of_ble_eq_true rfl, Nat.le_of_ble_eq_true rfl⟩ ?_
  refine lv_aload_n hx hb dX6_init_4 rfl (lv_at hl 0 rfl) ?_
  refine k_bipush hX dX6_init_5 (by decide) ?_
  refine h_newa (ty := .int) 1 (M := 100) hC (hts _ (by decide +kernel)) rfl rfl (Or.inr (Or.inl rfl)) rfl (by decide) hH hS (Nat.le_of_ble_eq_true rfl) (Nat.le_of_ble_eq_true rfl) dX6_init_7 (fun H hH hS => ?_)
  refine h_put (fs := [.null, .null, .null, .int (zi 0)]) (T := TX6) (N := 4) (ci := 7) (v := .ref (b + 1)) hC hin_X6 tyX6 tyX6_ok nmX6 rfl 0 (by decide) (hts (.fieldLink RX6 9 "KioskReel$Visitor" "timesSeen" "[I") (by decide +kernel)) rfl (tyX6_ok 0 (by decide)) rfl rfl (Nat.le_of_ble_eq_true rfl) (Nat.le_of_ble_eq_true rfl) rfl hH hS dX6_init_9 (fun H locs hH hS => ?_)
  refine lv_aload_n hx hb dX6_init_12 rfl (lv_at hl 0 rfl) ?_
  refine k_bipush hX dX6_init_13 (by decide) ?_
  refine h_newa (ty := .int) 1 (M := 100) hC (hts _ (by decide +kernel)) rfl rfl (Or.inr (Or.inl rfl)) rfl (by decide) hH hS (Nat.le_of_ble_eq_true rfl) (Nat.le_of_ble_eq_true rfl) dX6_init_15 (fun H hH hS => ?_)
  refine h_put (fs := [.ref (b + 1), .null, .null, .int (zi 0)]) (T := TX6) (N := 4) (ci := 7) (v := .ref (b + 2)) hC hin_X6 tyX6 tyX6_ok nmX6 rfl 1 (by decide) (hts (.fieldLink RX6 15 "KioskReel$Visitor" "timesAsked" "[I") (by decide +kernel)) rfl (tyX6_ok 1 (by decide)) rfl rfl (Nat.le_of_ble_eq_true rfl) (Nat.le_of_ble_eq_true rfl) rfl hH hS dX6_init_17 (fun H locs hH hS => ?_)
  refine lv_aload_n hx hb dX6_init_20 rfl (lv_at hl 0 rfl) ?_
  refine k_bipush hX dX6_init_21 (by decide) ?_
  refine h_newa (ty := .boolean) 2 (M := 100) hC (hts _ (by decide +kernel)) rfl rfl (Or.inr (Or.inr rfl)) rfl (by decide) hH hS (Nat.le_of_ble_eq_true rfl) (Nat.le_of_ble_eq_true rfl) dX6_init_23 (fun H hH hS => ?_)
  refine h_put (fs := [.ref (b + 1), .ref (b + 2), .null, .int (zi 0)]) (T := TX6) (N := 4) (ci := 7) (v := .ref (b + 3)) hC hin_X6 tyX6 tyX6_ok nmX6 rfl 2 (by decide) (hts (.fieldLink RX6 18 "KioskReel$Visitor" "wants" "[Z") (by decide +kernel)) rfl (tyX6_ok 2 (by decide)) rfl rfl (Nat.le_of_ble_eq_true rfl) (Nat.le_of_ble_eq_true rfl) rfl hH hS dX6_init_25 (fun H locs hH hS => ?_)
  refine lv_aload_n hx hb dX6_init_28 rfl (lv_at hl 0 rfl) ?_
  refine k_iconst hX dX6_init_29 ?_
  refine h_put (fs := [.ref (b + 1), .ref (b + 2), .ref (b + 3), .int (zi 0)]) (T := TX6) (N := 4) (ci := 7) (v := .int (zi (-1))) hC hin_X6 tyX6 tyX6_ok nmX6 rfl 3 (by decide) (hts (.fieldLink RX6 22 "KioskReel$Visitor" "place" "I") (by decide +kernel)) rfl (tyX6_ok 3 (by decide)) rfl rfl (Nat.le_of_ble_eq_true rfl) (Nat.le_of_ble_eq_true rfl) rfl hH hS dX6_init_30 (fun H locs hH hS => ?_)
  have hH := hH.conv (g := visF cA b) (fun k hk => match k, hk with | 0, _ => rfl | 1, _ => rfl | 2, _ => rfl | 3, _ => rfl | k + 4, h => absurd h (by omega))
  exact h_ret hC hH hS dX6_init_33
set_option maxHeartbeats 2000000 in
set_option maxRecDepth 100000 in
theorem c_X0 {l : Launch} {Dg : va_G} {cA : Nat → ClassId} (b : Nat) : GN l yX0_init wsX0_init ({ frames := 2, cells := 2, slots := 8, locals := 32 } : Room) Dg cA b 2 [.null, .int (zi 0)] 3 (devF cA b) 2 8 := by
  refine n_ent (cc := cX0_init) (maxL := 1) (by decide) rfl rfl (by decide) ?_
  intro pgm env s₀ m₀ bel mth cod hC hH hS ls hl
  have hx := hC.1
  have hb := hC.2.1
  have hts := hC.2.2.2.1
  have hX := cx0 hC
  have hin_X0 : ∀ w ∈ wsX00, w ∈ wsX0_init := by decide +kernel
  have hin_X4 : ∀ w ∈ wsX40, w ∈ wsX0_init := by decide +kernel
  refine lv_aload_n hx hb dX0_init_0 rfl (lv_at hl 0 rfl) ?_
  refine h_obj hC hl.1 (by decide +kernel : Cond.methodLink RX0 3 objectInit ∈ wsX0_init) (by decide +kernel) (by decide +kernel) dX0_init_1 ⟨Nat.le_of_ble_eq_true rfl, Nat.le_of_ble_eq_true rfl⟩ ?_
  refine lv_aload_n hx hb dX0_init_4 rfl (lv_at hl 0 rfl) ?_
  refine h_new (T := TX4) (N := 2) (ci := 5) hC hin_X4 tyX4 tyX4_ok (hts (.classLink RX0 9 RX4) (by decide +kernel)) (hts (.instantiable RX4 2) (by decide +kernel)) (hts (.initialized RX4) (by decide +kernel)) rfl [.null, .int (zi 0)] (by decide) hH hS (Nat.le_of_ble_eq_true rfl) (Nat.le_of_ble_eq_true rfl) dX0_init_5 (fun H hH hS => ?_)
  refine lv_dup hx hb dX0_init_8 rfl ?_
  refine h_ctorN (host := "KioskReel") (n0 := 1) (ci2 := 5) (fs2 := [.null, .int (zi 0)]) (rest := [.ref (b + 1), .ref b]) hC hl.1 rfl rfl (c_X4 (b + 1)) gX0_init_X4_init_n11 rfl rfl rfl (by decide +kernel) (hts (.initialized RX4) (by decide +kernel)) (hts (.instanceMethod yX4_init) (by decide +kernel)) rfl (by decide +kernel) ⟨Nat.le_of_ble_eq_true rfl, Nat.le_of_ble_eq_true rfl⟩ hH hS ⟨Nat.le_of_ble_eq_true rfl, Nat.le_of_ble_eq_true rfl⟩ (Nat.le_of_ble_eq_true rfl) dX0_init_9 (fun H locs hH hS => ?_)
  refine h_put (fs := [.null, .int (zi 0)]) (T := TX0) (N := 2) (ci := 2) (v := .ref (b + 1)) hC hin_X0 tyX0 tyX0_ok nmX0 rfl 0 (by decide) (hts (.fieldLink RX0 12 "KioskReel$Device" "queue" "LKioskReel$PlayerRow;") (by decide +kernel)) rfl (tyX0_ok 0 (by decide)) rfl rfl (Nat.le_of_ble_eq_true rfl) (Nat.le_of_ble_eq_true rfl) rfl hH hS dX0_init_12 (fun H locs hH hS => ?_)
  refine lv_aload_n hx hb dX0_init_15 rfl (lv_at hl 0 rfl) ?_
  refine k_iconst hX dX0_init_16 ?_
  refine h_put (fs := [.ref (b + 1), .int (zi 0)]) (T := TX0) (N := 2) (ci := 2) (v := .int (zi (-1))) hC hin_X0 tyX0 tyX0_ok nmX0 rfl 1 (by decide) (hts (.fieldLink RX0 18 "KioskReel$Device" "owner" "I") (by decide +kernel)) rfl (tyX0_ok 1 (by decide)) rfl rfl (Nat.le_of_ble_eq_true rfl) (Nat.le_of_ble_eq_true rfl) rfl hH hS dX0_init_17 (fun H locs hH hS => ?_)
  have hH := hH.conv (g := devF cA b) (fun k hk => match k, hk with | 0, _ => rfl | 1, _ => rfl | 2, _ => rfl | k + 3, h => absurd h (by omega))
  exact h_ret hC hH hS dX0_init_20
set_option maxHeartbeats 2000000 in
set_option maxRecDepth 100000 in
theorem c_X1 {l : Launch} {Dg : va_G} {cA : Nat → ClassId} (b : Nat) : GN l yX1_init wsX1_init ({ frames := 2, cells := 2, slots := 8, locals := 32 } : Room) Dg cA b 3 [.null, .int (zi 0), .int (zi 0), .int (zi 0), .int (zi 0)] 3 (kioF cA b) 2 8 := by
  refine n_ent (cc := cX1_init) (maxL := 1) (by decide) rfl rfl (by decide) ?_
  intro pgm env s₀ m₀ bel mth cod hC hH hS ls hl
  have hx := hC.1
  have hb := hC.2.1
  have hts := hC.2.2.2.1
  have hX := cx0 hC
  have hin_X1 : ∀ w ∈ wsX10, w ∈ wsX1_init := by decide +kernel
  have hin_X4 : ∀ w ∈ wsX40, w ∈ wsX1_init := by decide +kernel
  refine lv_aload_n hx hb dX1_init_0 rfl (lv_at hl 0 rfl) ?_
  refine h_obj hC hl.1 (by decide +kernel : Cond.methodLink RX1 3 objectInit ∈ wsX1_init) (by decide +kernel) (by decide +kernel) dX1_init_1 ⟨Nat.le_of_ble_eq_true rfl, Nat.le_of_ble_eq_true rfl⟩ ?_
  refine lv_aload_n hx hb dX1_init_4 rfl (lv_at hl 0 rfl) ?_
  refine h_new (T := TX4) (N := 2) (ci := 5) hC hin_X4 tyX4 tyX4_ok (hts (.classLink RX1 9 RX4) (by decide +kernel)) (hts (.instantiable RX4 2) (by decide +kernel)) (hts (.initialized RX4) (by decide +kernel)) rfl [.null, .int (zi 0)] (by decide) hH hS (Nat.le_of_ble_eq_true rfl) (Nat.le_of_ble_eq_true rfl) dX1_init_5 (fun H hH hS => ?_)
  refine lv_dup hx hb dX1_init_8 rfl ?_
  refine h_ctorN (host := "KioskReel") (n0 := 1) (ci2 := 5) (fs2 := [.null, .int (zi 0)]) (rest := [.ref (b + 1), .ref b]) hC hl.1 rfl rfl (c_X4 (b + 1)) gX1_init_X4_init_n11 rfl rfl rfl (by decide +kernel) (hts (.initialized RX4) (by decide +kernel)) (hts (.instanceMethod yX4_init) (by decide +kernel)) rfl (by decide +kernel) ⟨Nat.le_of_ble_eq_true rfl, Nat.le_of_ble_eq_true rfl⟩ hH hS ⟨Nat.le_of_ble_eq_true rfl, Nat.le_of_ble_eq_true rfl⟩ (Nat.le_of_ble_eq_true rfl) dX1_init_9 (fun H locs hH hS => ?_)
  refine h_put (fs := [.null, .int (zi 0), .int (zi 0), .int (zi 0), .int (zi 0)]) (T := TX1) (N := 5) (ci := 3) (v := .ref (b + 1)) hC hin_X1 tyX1 tyX1_ok nmX1 rfl 0 (by decide) (hts (.fieldLink RX1 12 "KioskReel$Kiosk" "playing" "LKioskReel$PlayerRow;") (by decide +kernel)) rfl (tyX1_ok 0 (by decide)) rfl rfl (Nat.le_of_ble_eq_true rfl) (Nat.le_of_ble_eq_true rfl) rfl hH hS dX1_init_12 (fun H locs hH hS => ?_)
  refine lv_aload_n hx hb dX1_init_15 rfl (lv_at hl 0 rfl) ?_
  refine k_iconst hX dX1_init_16 ?_
  refine h_put (fs := [.ref (b + 1), .int (zi 0), .int (zi 0), .int (zi 0), .int (zi 0)]) (T := TX1) (N := 5) (ci := 3) (v := .int (zi (-1))) hC hin_X1 tyX1 tyX1_ok nmX1 rfl 4 (by decide) (hts (.fieldLink RX1 18 "KioskReel$Kiosk" "lastSlide" "I") (by decide +kernel)) rfl (tyX1_ok 4 (by decide)) rfl rfl (Nat.le_of_ble_eq_true rfl) (Nat.le_of_ble_eq_true rfl) rfl hH hS dX1_init_17 (fun H locs hH hS => ?_)
  have hH := hH.conv (g := kioF cA b) (fun k hk => match k, hk with | 0, _ => rfl | 1, _ => rfl | 2, _ => rfl | k + 3, h => absurd h (by omega))
  exact h_ret hC hH hS dX1_init_20
set_option maxHeartbeats 2000000 in
set_option maxRecDepth 100000 in
theorem c_X3 {l : Launch} {Dg : va_G} {cA : Nat → ClassId} (b : Nat) : GN l yX3_init wsX3_init ({ frames := 2, cells := 14, slots := 180, locals := 32 } : Room) Dg cA b 4 [.null, .null, .int (zi 0), .int (zi 0), .int (zi 0), .int (zi 0), .int (zi 0), .int (zi 0), .int (zi 0)] 15 (plaF cA b) 14 180 := by
  refine n_ent (cc := cX3_init) (maxL := 2) (by decide) rfl rfl (by decide) ?_
  intro pgm env s₀ m₀ bel mth cod hC hH hS ls hl
  have hx := hC.1
  have hb := hC.2.1
  have hts := hC.2.2.2.1
  have hX := cx0 hC
  have hin_X3 : ∀ w ∈ wsX30, w ∈ wsX3_init := by decide +kernel
  have hin_X5 : ∀ w ∈ wsX50, w ∈ wsX3_init := by decide +kernel
  refine lv_aload_n hx hb dX3_init_0 rfl (lv_at hl 0 rfl) ?_
  refine h_obj hC hl.1 (by decide +kernel : Cond.methodLink RX3 3 objectInit ∈ wsX3_init) (by decide +kernel) (by decide +kernel) dX3_init_1 ⟨Nat.le_of_ble_eq_true rfl, Nat.le_of_ble_eq_true rfl⟩ ?_
  refine lv_aload_n hx hb dX3_init_4 rfl (lv_at hl 0 rfl) ?_
  refine k_iconst hX dX3_init_5 ?_
  refine h_anew (C := "KioskReel$Reel") 3 (M := 4) hC (hts (.classLink RX3 9 RX5) (by decide +kernel)) (by decide) rfl rfl (by decide) hH hS (Nat.le_of_ble_eq_true rfl) (Nat.le_of_ble_eq_true rfl) dX3_init_6 (fun H hH hS => ?_)
  refine h_put (fs := [.null, .null, .int (zi 0), .int (zi 0), .int (zi 0), .int (zi 0), .int (zi 0), .int (zi 0), .int (zi 0)]) (T := TX3) (N := 9) (ci := 4) (v := .ref (b + 1)) hC hin_X3 tyX3 tyX3_ok nmX3 rfl 0 (by decide) (hts (.fieldLink RX3 11 "KioskReel$Player" "pile" "[LKioskReel$Reel;") (by decide +kernel)) rfl (tyX3_ok 0 (by decide)) rfl rfl (Nat.le_of_ble_eq_true rfl) (Nat.le_of_ble_eq_true rfl) rfl hH hS dX3_init_9 (fun H locs hH hS => ?_)
  refine lv_aload_n hx hb dX3_init_12 rfl (lv_at hl 0 rfl) ?_
  refine k_iconst hX dX3_init_13 ?_
  refine h_newa (ty := .int) 1 (M := 4) hC (hts _ (by decide +kernel)) rfl rfl (Or.inr (Or.inl rfl)) rfl (by decide) hH hS (Nat.le_of_ble_eq_true rfl) (Nat.le_of_ble_eq_true rfl) dX3_init_14 (fun H hH hS => ?_)
  refine h_put (fs := [.ref (b + 1), .null, .int (zi 0), .int (zi 0), .int (zi 0), .int (zi 0), .int (zi 0), .int (zi 0), .int (zi 0)]) (T := TX3) (N := 9) (ci := 4) (v := .ref (b + 2)) hC hin_X3 tyX3 tyX3_ok nmX3 rfl 1 (by decide) (hts (.fieldLink RX3 17 "KioskReel$Player" "ahead" "[I") (by decide +kernel)) rfl (tyX3_ok 1 (by decide)) rfl rfl (Nat.le_of_ble_eq_true rfl) (Nat.le_of_ble_eq_true rfl) rfl hH hS dX3_init_16 (fun H locs hH hS => ?_)
  refine lv_aload_n hx hb dX3_init_19 rfl (lv_at hl 0 rfl) ?_
  refine k_iconst hX dX3_init_20 ?_
  refine h_put (fs := [.ref (b + 1), .ref (b + 2), .int (zi 0), .int (zi 0), .int (zi 0), .int (zi 0), .int (zi 0), .int (zi 0), .int (zi 0)]) (T := TX3) (N := 9) (ci := 4) (v := .int (zi 1)) hC hin_X3 tyX3 tyX3_ok nmX3 rfl 2 (by decide) (hts (.fieldLink RX3 21 "KioskReel$Player" "height" "I") (by decide +kernel)) rfl (tyX3_ok 2 (by decide)) rfl rfl (Nat.le_of_ble_eq_true rfl) (Nat.le_of_ble_eq_true rfl) rfl hH hS dX3_init_21 (fun H locs hH hS => ?_)
  refine lv_aload_n hx hb dX3_init_24 rfl (lv_at hl 0 rfl) ?_
  refine k_iconst hX dX3_init_25 ?_
  refine h_put (fs := [.ref (b + 1), .ref (b + 2), .int (zi 1), .int (zi 0), .int (zi 0), .int (zi 0), .int (zi 0), .int (zi 0), .int (zi 0)]) (T := TX3) (N := 9) (ci := 4) (v := .int (zi (-1))) hC hin_X3 tyX3 tyX3_ok nmX3 rfl 5 (by decide) (hts (.fieldLink RX3 25 "KioskReel$Player" "place" "I") (by decide +kernel)) rfl (tyX3_ok 5 (by decide)) rfl rfl (Nat.le_of_ble_eq_true rfl) (Nat.le_of_ble_eq_true rfl) rfl hH hS dX3_init_26 (fun H locs hH hS => ?_)
  refine lv_aload_n hx hb dX3_init_29 rfl (lv_at hl 0 rfl) ?_
  refine k_iconst hX dX3_init_30 ?_
  refine h_put (fs := [.ref (b + 1), .ref (b + 2), .int (zi 1), .int (zi 0), .int (zi 0), .int (zi (-1)), .int (zi 0), .int (zi 0), .int (zi 0)]) (T := TX3) (N := 9) (ci := 4) (v := .int (zi (-1))) hC hin_X3 tyX3 tyX3_ok nmX3 rfl 8 (by decide) (hts (.fieldLink RX3 28 "KioskReel$Player" "awaitedDevice" "I") (by decide +kernel)) rfl (tyX3_ok 8 (by decide)) rfl rfl (Nat.le_of_ble_eq_true rfl) (Nat.le_of_ble_eq_true rfl) rfl hH hS dX3_init_31 (fun H locs hH hS => ?_)
  refine k_iconst hX dX3_init_34 ?_
  refine lv_istore_n (lv' := [(1, .int (zi 0)), (0, .ref b)]) hx hb dX3_init_35 rfl hl (by decide) rfl (fun ls hl => ?_)
  refine lv_iload_n hx hb dX3_init_36 rfl (lv_at hl 0 rfl) ?_
  refine k_iconst hX dX3_init_37 ?_
  refine k_icmp_ge (tgt := 60) hX dX3_init_38 (by decide) ⟨⟨by decide, by decide⟩, ⟨by decide, by decide⟩⟩ (fun z => absurd z (by decide)) (fun _ => ?_)
  refine lv_aload_n hx hb dX3_init_41 rfl (lv_at hl 1 rfl) ?_
  refine h_get (fs := [.ref (b + 1), .ref (b + 2), .int (zi 1), .int (zi 0), .int (zi 0), .int (zi (-1)), .int (zi 0), .int (zi 0), .int (zi (-1))]) (T := TX3) (N := 9) (ci := 4) (v := .ref (b + 1)) hC hin_X3 rfl 0 (by decide) (hts (.fieldLink RX3 11 "KioskReel$Player" "pile" "[LKioskReel$Reel;") (by decide +kernel)) rfl rfl (by decide) rfl hH dX3_init_42 ?_
  refine lv_iload_n hx hb dX3_init_45 rfl (lv_at hl 0 rfl) ?_
  refine h_new (T := TX5) (N := 3) (ci := 6) hC hin_X5 tyX5 tyX5_ok (hts (.classLink RX3 9 RX5) (by decide +kernel)) (hts (.instantiable RX5 3) (by decide +kernel)) (hts (.initialized RX5) (by decide +kernel)) rfl [.null, .null, .int (zi 0)] (by decide) hH hS (Nat.le_of_ble_eq_true rfl) (Nat.le_of_ble_eq_true rfl) dX3_init_46 (fun H hH hS => ?_)
  refine lv_dup hx hb dX3_init_49 rfl ?_
  refine h_ctorN (host := "KioskReel") (n0 := 3) (ci2 := 6) (fs2 := [.null, .null, .int (zi 0)]) (rest := [.ref (b + 3), .int (zi 0), .ref (b + 1)]) hC hl.1 rfl rfl (c_X5 (b + 3)) gX3_init_X5_init_n31 rfl rfl rfl (by decide +kernel) (hts (.initialized RX5) (by decide +kernel)) (hts (.instanceMethod yX5_init) (by decide +kernel)) rfl (by decide +kernel) ⟨Nat.le_of_ble_eq_true rfl, Nat.le_of_ble_eq_true rfl⟩ hH hS ⟨Nat.le_of_ble_eq_true rfl, Nat.le_of_ble_eq_true rfl⟩ (Nat.le_of_ble_eq_true rfl) dX3_init_50 (fun H locs hH hS => ?_)
  refine h_aast (C := "KioskReel$Reel") (T := TX5) (N := 3) (ci := 6) (vs := [.ref (b + 3 + 1), .ref (b + 3 + 2), .int (zi 0)]) (g := (fun _ => none)) (M := 4) (j := 1) (v := 3) (x := 0) 3 hC (by decide) rfl rfl (by decide) rfl rfl (by decide) (by decide) hH hS dX3_init_53 (fun H locs hH hS => ?_)
  refine k_iinc (k := 0) (a := 0) (lv' := [(1, .int (zi 1)), (0, .ref b)]) hX dX3_init_54 hl rfl (by decide) rfl (fun ls hl => ?_)
  refine lv_goto (tgt := 36) hx hb dX3_init_57 (by decide) ?_
  refine lv_iload_n hx hb dX3_init_36 rfl (lv_at hl 0 rfl) ?_
  refine k_iconst hX dX3_init_37 ?_
  refine k_icmp_ge (tgt := 60) hX dX3_init_38 (by decide) ⟨⟨by decide, by decide⟩, ⟨by decide, by decide⟩⟩ (fun z => absurd z (by decide)) (fun _ => ?_)
  refine lv_aload_n hx hb dX3_init_41 rfl (lv_at hl 1 rfl) ?_
  refine h_get (fs := [.ref (b + 1), .ref (b + 2), .int (zi 1), .int (zi 0), .int (zi 0), .int (zi (-1)), .int (zi 0), .int (zi 0), .int (zi (-1))]) (T := TX3) (N := 9) (ci := 4) (v := .ref (b + 1)) hC hin_X3 rfl 0 (by decide) (hts (.fieldLink RX3 11 "KioskReel$Player" "pile" "[LKioskReel$Reel;") (by decide +kernel)) rfl rfl (by decide) rfl hH dX3_init_42 ?_
  refine lv_iload_n hx hb dX3_init_45 rfl (lv_at hl 0 rfl) ?_
  refine h_new (T := TX5) (N := 3) (ci := 6) hC hin_X5 tyX5 tyX5_ok (hts (.classLink RX3 9 RX5) (by decide +kernel)) (hts (.instantiable RX5 3) (by decide +kernel)) (hts (.initialized RX5) (by decide +kernel)) rfl [.null, .null, .int (zi 0)] (by decide) hH hS (Nat.le_of_ble_eq_true rfl) (Nat.le_of_ble_eq_true rfl) dX3_init_46 (fun H hH hS => ?_)
  refine lv_dup hx hb dX3_init_49 rfl ?_
  refine h_ctorN (host := "KioskReel") (n0 := 6) (ci2 := 6) (fs2 := [.null, .null, .int (zi 0)]) (rest := [.ref (b + 6), .int (zi 1), .ref (b + 1)]) hC hl.1 rfl rfl (c_X5 (b + 6)) gX3_init_X5_init_n31 rfl rfl rfl (by decide +kernel) (hts (.initialized RX5) (by decide +kernel)) (hts (.instanceMethod yX5_init) (by decide +kernel)) rfl (by decide +kernel) ⟨Nat.le_of_ble_eq_true rfl, Nat.le_of_ble_eq_true rfl⟩ hH hS ⟨Nat.le_of_ble_eq_true rfl, Nat.le_of_ble_eq_true rfl⟩ (Nat.le_of_ble_eq_true rfl) dX3_init_50 (fun H locs hH hS => ?_)
  refine h_aast (C := "KioskReel$Reel") (T := TX5) (N := 3) (ci := 6) (vs := [.ref (b + 6 + 1), .ref (b + 6 + 2), .int (zi 0)]) (g := (va_up (fun _ => none) 0 (some (b + 3)))) (M := 4) (j := 1) (v := 6) (x := 1) 3 hC (by decide) rfl rfl (by decide) rfl rfl (by decide) (by decide) hH hS dX3_init_53 (fun H locs hH hS => ?_)
  refine k_iinc (k := 0) (a := 1) (lv' := [(1, .int (zi 2)), (0, .ref b)]) hX dX3_init_54 hl rfl (by decide) rfl (fun ls hl => ?_)
  refine lv_goto (tgt := 36) hx hb dX3_init_57 (by decide) ?_
  refine lv_iload_n hx hb dX3_init_36 rfl (lv_at hl 0 rfl) ?_
  refine k_iconst hX dX3_init_37 ?_
  refine k_icmp_ge (tgt := 60) hX dX3_init_38 (by decide) ⟨⟨by decide, by decide⟩, ⟨by decide, by decide⟩⟩ (fun z => absurd z (by decide)) (fun _ => ?_)
  refine lv_aload_n hx hb dX3_init_41 rfl (lv_at hl 1 rfl) ?_
  refine h_get (fs := [.ref (b + 1), .ref (b + 2), .int (zi 1), .int (zi 0), .int (zi 0), .int (zi (-1)), .int (zi 0), .int (zi 0), .int (zi (-1))]) (T := TX3) (N := 9) (ci := 4) (v := .ref (b + 1)) hC hin_X3 rfl 0 (by decide) (hts (.fieldLink RX3 11 "KioskReel$Player" "pile" "[LKioskReel$Reel;") (by decide +kernel)) rfl rfl (by decide) rfl hH dX3_init_42 ?_
  refine lv_iload_n hx hb dX3_init_45 rfl (lv_at hl 0 rfl) ?_
  refine h_new (T := TX5) (N := 3) (ci := 6) hC hin_X5 tyX5 tyX5_ok (hts (.classLink RX3 9 RX5) (by decide +kernel)) (hts (.instantiable RX5 3) (by decide +kernel)) (hts (.initialized RX5) (by decide +kernel)) rfl [.null, .null, .int (zi 0)] (by decide) hH hS (Nat.le_of_ble_eq_true rfl) (Nat.le_of_ble_eq_true rfl) dX3_init_46 (fun H hH hS => ?_)
  refine lv_dup hx hb dX3_init_49 rfl ?_
  refine h_ctorN (host := "KioskReel") (n0 := 9) (ci2 := 6) (fs2 := [.null, .null, .int (zi 0)]) (rest := [.ref (b + 9), .int (zi 2), .ref (b + 1)]) hC hl.1 rfl rfl (c_X5 (b + 9)) gX3_init_X5_init_n31 rfl rfl rfl (by decide +kernel) (hts (.initialized RX5) (by decide +kernel)) (hts (.instanceMethod yX5_init) (by decide +kernel)) rfl (by decide +kernel) ⟨Nat.le_of_ble_eq_true rfl, Nat.le_of_ble_eq_true rfl⟩ hH hS ⟨Nat.le_of_ble_eq_true rfl, Nat.le_of_ble_eq_true rfl⟩ (Nat.le_of_ble_eq_true rfl) dX3_init_50 (fun H locs hH hS => ?_)
  refine h_aast (C := "KioskReel$Reel") (T := TX5) (N := 3) (ci := 6) (vs := [.ref (b + 9 + 1), .ref (b + 9 + 2), .int (zi 0)]) (g := (va_up (va_up (fun _ => none) 0 (some (b + 3))) 1 (some (b + 6)))) (M := 4) (j := 1) (v := 9) (x := 2) 3 hC (by decide) rfl rfl (by decide) rfl rfl (by decide) (by decide) hH hS dX3_init_53 (fun H locs hH hS => ?_)
  refine k_iinc (k := 0) (a := 2) (lv' := [(1, .int (zi 3)), (0, .ref b)]) hX dX3_init_54 hl rfl (by decide) rfl (fun ls hl => ?_)
  refine lv_goto (tgt := 36) hx hb dX3_init_57 (by decide) ?_
  refine lv_iload_n hx hb dX3_init_36 rfl (lv_at hl 0 rfl) ?_
  refine k_iconst hX dX3_init_37 ?_
  refine k_icmp_ge (tgt := 60) hX dX3_init_38 (by decide) ⟨⟨by decide, by decide⟩, ⟨by decide, by decide⟩⟩ (fun z => absurd z (by decide)) (fun _ => ?_)
  refine lv_aload_n hx hb dX3_init_41 rfl (lv_at hl 1 rfl) ?_
  refine h_get (fs := [.ref (b + 1), .ref (b + 2), .int (zi 1), .int (zi 0), .int (zi 0), .int (zi (-1)), .int (zi 0), .int (zi 0), .int (zi (-1))]) (T := TX3) (N := 9) (ci := 4) (v := .ref (b + 1)) hC hin_X3 rfl 0 (by decide) (hts (.fieldLink RX3 11 "KioskReel$Player" "pile" "[LKioskReel$Reel;") (by decide +kernel)) rfl rfl (by decide) rfl hH dX3_init_42 ?_
  refine lv_iload_n hx hb dX3_init_45 rfl (lv_at hl 0 rfl) ?_
  refine h_new (T := TX5) (N := 3) (ci := 6) hC hin_X5 tyX5 tyX5_ok (hts (.classLink RX3 9 RX5) (by decide +kernel)) (hts (.instantiable RX5 3) (by decide +kernel)) (hts (.initialized RX5) (by decide +kernel)) rfl [.null, .null, .int (zi 0)] (by decide) hH hS (Nat.le_of_ble_eq_true rfl) (Nat.le_of_ble_eq_true rfl) dX3_init_46 (fun H hH hS => ?_)
  refine lv_dup hx hb dX3_init_49 rfl ?_
  refine h_ctorN (host := "KioskReel") (n0 := 12) (ci2 := 6) (fs2 := [.null, .null, .int (zi 0)]) (rest := [.ref (b + 12), .int (zi 3), .ref (b + 1)]) hC hl.1 rfl rfl (c_X5 (b + 12)) gX3_init_X5_init_n31 rfl rfl rfl (by decide +kernel) (hts (.initialized RX5) (by decide +kernel)) (hts (.instanceMethod yX5_init) (by decide +kernel)) rfl (by decide +kernel) ⟨Nat.le_of_ble_eq_true rfl, Nat.le_of_ble_eq_true rfl⟩ hH hS ⟨Nat.le_of_ble_eq_true rfl, Nat.le_of_ble_eq_true rfl⟩ (Nat.le_of_ble_eq_true rfl) dX3_init_50 (fun H locs hH hS => ?_)
  refine h_aast (C := "KioskReel$Reel") (T := TX5) (N := 3) (ci := 6) (vs := [.ref (b + 12 + 1), .ref (b + 12 + 2), .int (zi 0)]) (g := (va_up (va_up (va_up (fun _ => none) 0 (some (b + 3))) 1 (some (b + 6))) 2 (some (b + 9)))) (M := 4) (j := 1) (v := 12) (x := 3) 3 hC (by decide) rfl rfl (by decide) rfl rfl (by decide) (by decide) hH hS dX3_init_53 (fun H locs hH hS => ?_)
  refine k_iinc (k := 0) (a := 3) (lv' := [(1, .int (zi 4)), (0, .ref b)]) hX dX3_init_54 hl rfl (by decide) rfl (fun ls hl => ?_)
  refine lv_goto (tgt := 36) hx hb dX3_init_57 (by decide) ?_
  refine lv_iload_n hx hb dX3_init_36 rfl (lv_at hl 0 rfl) ?_
  refine k_iconst hX dX3_init_37 ?_
  refine k_icmp_ge (tgt := 60) hX dX3_init_38 (by decide) ⟨⟨by decide, by decide⟩, ⟨by decide, by decide⟩⟩ (fun _ => ?_) (fun z => absurd z (by decide))
  have hH := hH.conv (g := plaF cA b) (fun k hk => match k, hk with | 0, _ => rfl | 1, _ => rfl | 2, _ => rfl | 3, _ => rfl | 4, _ => rfl | 5, _ => rfl | 6, _ => rfl | 7, _ => rfl | 8, _ => rfl | 9, _ => rfl | 10, _ => rfl | 11, _ => rfl | 12, _ => rfl | 13, _ => rfl | 14, _ => rfl | k + 15, h => absurd h (by omega))
  exact h_ret hC hH hS dX3_init_60
end M14
