section M15B
/-- the second object on its way: how far the rows of -1 are filled -/
def mrow (i : Nat) : Int → Int := fun j => if j < (i : Int) then -1 else 0
def modF (cA : Nat → ClassId) (b i w : Nat) : Nat → va_E := fun q => match q with
  | 0 => .inr (9, [.ref (b + 1), .ref (b + 2), .ref (b + 3), .ref (b + 4), .ref (b + 5), .ref (b + 6), .ref (b + 7), .ref (b + 8), .ref (b + 9), .ref (b + 10), .ref (b + 11), .ref (b + 12), .ref (b + 13), .ref (b + 14), .ref (b + 15), .ref (b + 16), .ref (b + 17), .ref (b + 18), .ref (b + 19), .ref (b + 20), .ref (b + 21), .ref (b + 22), .ref (b + 23), .ref (b + 24), .ref (b + 25), .ref (b + 26), .int (zi 0), .int (zi 0), .int (zi 0), .int (zi 0), .int (zi 0), .long (zl 0)])
  | 1 => .inl (cA 1, 8, .inl (fun j => zi (0)))
  | 2 => .inl (cA 1, 160, .inl (fun j => zi (0)))
  | 3 => .inl (cA 1, 160, .inl (fun j => zi (0)))
  | 4 => .inl (cA 1, 24, .inl (fun j => zi (0)))
  | 5 => .inl (cA 1, 480, .inl (fun j => zi (0)))
  | 6 => .inl (cA 1, 480, .inl (fun j => zi (0)))
  | 7 => .inl (cA 1, 24, .inl (fun j => zi (0)))
  | 8 => .inl (cA 1, 24, .inl (fun j => zi (0)))
  | 9 => .inl (cA 2, 6, .inl (fun j => zi (0)))
  | 10 => .inl (cA 2, 6, .inl (fun j => zi (0)))
  | 11 => .inl (cA 2, 6, .inl (fun j => zi (0)))
  | 12 => .inl (cA 1, 6, .inl (fun j => zi (0)))
  | 13 => .inl (cA 1, 6, .inl (fun j => zi (mrow i (j : Int))))
  | 14 => .inl (cA 1, 6, .inl (fun j => zi (0)))
  | 15 => .inl (cA 1, 6, .inl (fun j => zi (0)))
  | 16 => .inl (cA 1, 6, .inl (fun j => zi (mrow i (j : Int))))
  | 17 => .inl (cA 1, 6, .inl (fun j => zi (0)))
  | 18 => .inl (cA 1, 6, .inl (fun j => zi (mrow i (j : Int))))
  | 19 => .inl (cA 1, 36, .inl (fun j => zi (0)))
  | 20 => .inl (cA 1, 6, .inl (fun j => zi (0)))
  | 21 => .inl (cA 1, 6, .inl (fun j => zi (mrow i (j : Int))))
  | 22 => .inl (cA 1, 36, .inl (fun j => zi (0)))
  | 23 => .inl (cA 1, 6, .inl (fun j => zi (0)))
  | 24 => .inl (cA 1, 1000, .inl (fun j => zi (0)))
  | 25 => .inl (cA 1, 10, .inl (fun j => zi (mrow w (j : Int))))
  | _ => .inl (cA 2, 1000, .inl (fun j => zi (0)))
theorem mrow_0 (j : Nat) : mrow 0 (j : Int) = 0 := if_neg (by omega)
theorem mrow_s (i : Nat) : ∀ j : Int, mrow (i + 1) j = if j = (i : Int) then -1 else mrow i j := fun j => by
  unfold mrow
  by_cases h : j = (i : Int)
  · rw [if_pos h, if_pos (by omega)]
  · rw [if_neg h]
    by_cases h2 : j < (i : Int)
    · rw [if_pos h2, if_pos (by omega)]
    · rw [if_neg h2, if_neg (by omega)]
theorem mrow_f : (fun _ : Nat => zi 0) = fun j : Nat => zi (mrow 0 (j : Int)) := by
  funext j
  rw [mrow_0]
set_option maxHeartbeats 4000000 in
set_option maxRecDepth 100000 in
theorem c_X8 {l : Launch} {Dg : va_G} {cA : Nat → ClassId} (b : Nat) : GN l yX8_init wsX8_init ({ frames := 1, cells := 26, slots := 3520, locals := 12 } : Room) Dg cA b 9 [.null, .null, .null, .null, .null, .null, .null, .null, .null, .null, .null, .null, .null, .null, .null, .null, .null, .null, .null, .null, .null, .null, .null, .null, .null, .null, .int (zi 0), .int (zi 0), .int (zi 0), .int (zi 0), .int (zi 0), .long (zl 0)] 27 (modF cA b 6 10) 26 3520 := by
  refine n_ent (cc := cX8_init) (maxL := 2) (by decide) rfl rfl (by decide) ?_
  intro pgm env s₀ m₀ bel mth cod hC hH hS ls hl
  have hx := hC.1
  have hb := hC.2.1
  have hts := hC.2.2.2.1
  have hX := cx0 hC
  have hin_X8 : ∀ w ∈ wsX80, w ∈ wsX8_init := by decide +kernel
  refine lv_aload_n hx hb dX8_init_0 rfl (lv_at hl 0 rfl) ?_
  refine h_obj hC hl.1 (by decide +kernel : Cond.methodLink RX8 1 objectInit ∈ wsX8_init) (by decide +kernel) (by decide +kernel) dX8_init_1 ⟨Nat.le_of_ble_eq_true rfl, Nat.le_of_ble_eq_true rfl⟩ ?_
  refine lv_aload_n hx hb dX8_init_4 rfl (lv_at hl 0 rfl) ?_
  refine k_bipush hX dX8_init_5 (by decide) ?_
  refine h_newa (ty := .int) 1 (M := 8) hC (hts _ (by decide +kernel)) rfl rfl (Or.inr (Or.inl rfl)) rfl (by decide) hH hS (Nat.le_of_ble_eq_true rfl) (Nat.le_of_ble_eq_true rfl) dX8_init_7 (fun H hH hS => ?_)
  refine h_put (fs := [.null, .null, .null, .null, .null, .null, .null, .null, .null, .null, .null, .null, .null, .null, .null, .null, .null, .null, .null, .null, .null, .null, .null, .null, .null, .null, .int (zi 0), .int (zi 0), .int (zi 0), .int (zi 0), .int (zi 0), .long (zl 0)]) (T := TX8) (N := 32) (ci := 9) (v := .ref (b + 1)) hC hin_X8 tyX8 tyX8_ok nmX8 rfl 0 (by decide) (hts (.fieldLink RX8 7 "KioskReelModel" "many" "[I") (by decide +kernel)) rfl (tyX8_ok 0 (by decide)) rfl rfl (Nat.le_of_ble_eq_true rfl) (Nat.le_of_ble_eq_true rfl) rfl hH hS dX8_init_9 (fun H locs hH hS => ?_)
  refine lv_aload_n hx hb dX8_init_12 rfl (lv_at hl 0 rfl) ?_
  refine k_sipush hX dX8_init_13 (by decide) ?_
  refine h_newa (ty := .int) 1 (M := 160) hC (hts _ (by decide +kernel)) rfl rfl (Or.inr (Or.inl rfl)) rfl (by decide) hH hS (Nat.le_of_ble_eq_true rfl) (Nat.le_of_ble_eq_true rfl) dX8_init_16 (fun H hH hS => ?_)
  refine h_put (fs := [.ref (b + 1), .null, .null, .null, .null, .null, .null, .null, .null, .null, .null, .null, .null, .null, .null, .null, .null, .null, .null, .null, .null, .null, .null, .null, .null, .null, .int (zi 0), .int (zi 0), .int (zi 0), .int (zi 0), .int (zi 0), .long (zl 0)]) (T := TX8) (N := 32) (ci := 9) (v := .ref (b + 2)) hC hin_X8 tyX8 tyX8_ok nmX8 rfl 1 (by decide) (hts (.fieldLink RX8 13 "KioskReelModel" "kind" "[I") (by decide +kernel)) rfl (tyX8_ok 1 (by decide)) rfl rfl (Nat.le_of_ble_eq_true rfl) (Nat.le_of_ble_eq_true rfl) rfl hH hS dX8_init_18 (fun H locs hH hS => ?_)
  refine lv_aload_n hx hb dX8_init_21 rfl (lv_at hl 0 rfl) ?_
  refine k_sipush hX dX8_init_22 (by decide) ?_
  refine h_newa (ty := .int) 1 (M := 160) hC (hts _ (by decide +kernel)) rfl rfl (Or.inr (Or.inl rfl)) rfl (by decide) hH hS (Nat.le_of_ble_eq_true rfl) (Nat.le_of_ble_eq_true rfl) dX8_init_25 (fun H hH hS => ?_)
  refine h_put (fs := [.ref (b + 1), .ref (b + 2), .null, .null, .null, .null, .null, .null, .null, .null, .null, .null, .null, .null, .null, .null, .null, .null, .null, .null, .null, .null, .null, .null, .null, .null, .int (zi 0), .int (zi 0), .int (zi 0), .int (zi 0), .int (zi 0), .long (zl 0)]) (T := TX8) (N := 32) (ci := 9) (v := .ref (b + 3)) hC hin_X8 tyX8 tyX8_ok nmX8 rfl 2 (by decide) (hts (.fieldLink RX8 16 "KioskReelModel" "number" "[I") (by decide +kernel)) rfl (tyX8_ok 2 (by decide)) rfl rfl (Nat.le_of_ble_eq_true rfl) (Nat.le_of_ble_eq_true rfl) rfl hH hS dX8_init_27 (fun H locs hH hS => ?_)
  refine lv_aload_n hx hb dX8_init_30 rfl (lv_at hl 0 rfl) ?_
  refine k_bipush hX dX8_init_31 (by decide) ?_
  refine h_newa (ty := .int) 1 (M := 24) hC (hts _ (by decide +kernel)) rfl rfl (Or.inr (Or.inl rfl)) rfl (by decide) hH hS (Nat.le_of_ble_eq_true rfl) (Nat.le_of_ble_eq_true rfl) dX8_init_33 (fun H hH hS => ?_)
  refine h_put (fs := [.ref (b + 1), .ref (b + 2), .ref (b + 3), .null, .null, .null, .null, .null, .null, .null, .null, .null, .null, .null, .null, .null, .null, .null, .null, .null, .null, .null, .null, .null, .null, .null, .int (zi 0), .int (zi 0), .int (zi 0), .int (zi 0), .int (zi 0), .long (zl 0)]) (T := TX8) (N := 32) (ci := 9) (v := .ref (b + 4)) hC hin_X8 tyX8 tyX8_ok nmX8 rfl 3 (by decide) (hts (.fieldLink RX8 19 "KioskReelModel" "pileMany" "[I") (by decide +kernel)) rfl (tyX8_ok 3 (by decide)) rfl rfl (Nat.le_of_ble_eq_true rfl) (Nat.le_of_ble_eq_true rfl) rfl hH hS dX8_init_35 (fun H locs hH hS => ?_)
  refine lv_aload_n hx hb dX8_init_38 rfl (lv_at hl 0 rfl) ?_
  refine k_sipush hX dX8_init_39 (by decide) ?_
  refine h_newa (ty := .int) 1 (M := 480) hC (hts _ (by decide +kernel)) rfl rfl (Or.inr (Or.inl rfl)) rfl (by decide) hH hS (Nat.le_of_ble_eq_true rfl) (Nat.le_of_ble_eq_true rfl) dX8_init_42 (fun H hH hS => ?_)
  refine h_put (fs := [.ref (b + 1), .ref (b + 2), .ref (b + 3), .ref (b + 4), .null, .null, .null, .null, .null, .null, .null, .null, .null, .null, .null, .null, .null, .null, .null, .null, .null, .null, .null, .null, .null, .null, .int (zi 0), .int (zi 0), .int (zi 0), .int (zi 0), .int (zi 0), .long (zl 0)]) (T := TX8) (N := 32) (ci := 9) (v := .ref (b + 5)) hC hin_X8 tyX8 tyX8_ok nmX8 rfl 4 (by decide) (hts (.fieldLink RX8 22 "KioskReelModel" "pileKind" "[I") (by decide +kernel)) rfl (tyX8_ok 4 (by decide)) rfl rfl (Nat.le_of_ble_eq_true rfl) (Nat.le_of_ble_eq_true rfl) rfl hH hS dX8_init_44 (fun H locs hH hS => ?_)
  refine lv_aload_n hx hb dX8_init_47 rfl (lv_at hl 0 rfl) ?_
  refine k_sipush hX dX8_init_48 (by decide) ?_
  refine h_newa (ty := .int) 1 (M := 480) hC (hts _ (by decide +kernel)) rfl rfl (Or.inr (Or.inl rfl)) rfl (by decide) hH hS (Nat.le_of_ble_eq_true rfl) (Nat.le_of_ble_eq_true rfl) dX8_init_51 (fun H hH hS => ?_)
  refine h_put (fs := [.ref (b + 1), .ref (b + 2), .ref (b + 3), .ref (b + 4), .ref (b + 5), .null, .null, .null, .null, .null, .null, .null, .null, .null, .null, .null, .null, .null, .null, .null, .null, .null, .null, .null, .null, .null, .int (zi 0), .int (zi 0), .int (zi 0), .int (zi 0), .int (zi 0), .long (zl 0)]) (T := TX8) (N := 32) (ci := 9) (v := .ref (b + 6)) hC hin_X8 tyX8 tyX8_ok nmX8 rfl 5 (by decide) (hts (.fieldLink RX8 25 "KioskReelModel" "pileNumber" "[I") (by decide +kernel)) rfl (tyX8_ok 5 (by decide)) rfl rfl (Nat.le_of_ble_eq_true rfl) (Nat.le_of_ble_eq_true rfl) rfl hH hS dX8_init_53 (fun H locs hH hS => ?_)
  refine lv_aload_n hx hb dX8_init_56 rfl (lv_at hl 0 rfl) ?_
  refine k_bipush hX dX8_init_57 (by decide) ?_
  refine h_newa (ty := .int) 1 (M := 24) hC (hts _ (by decide +kernel)) rfl rfl (Or.inr (Or.inl rfl)) rfl (by decide) hH hS (Nat.le_of_ble_eq_true rfl) (Nat.le_of_ble_eq_true rfl) dX8_init_59 (fun H hH hS => ?_)
  refine h_put (fs := [.ref (b + 1), .ref (b + 2), .ref (b + 3), .ref (b + 4), .ref (b + 5), .ref (b + 6), .null, .null, .null, .null, .null, .null, .null, .null, .null, .null, .null, .null, .null, .null, .null, .null, .null, .null, .null, .null, .int (zi 0), .int (zi 0), .int (zi 0), .int (zi 0), .int (zi 0), .long (zl 0)]) (T := TX8) (N := 32) (ci := 9) (v := .ref (b + 7)) hC hin_X8 tyX8 tyX8_ok nmX8 rfl 6 (by decide) (hts (.fieldLink RX8 28 "KioskReelModel" "pileList" "[I") (by decide +kernel)) rfl (tyX8_ok 6 (by decide)) rfl rfl (Nat.le_of_ble_eq_true rfl) (Nat.le_of_ble_eq_true rfl) rfl hH hS dX8_init_61 (fun H locs hH hS => ?_)
  refine lv_aload_n hx hb dX8_init_64 rfl (lv_at hl 0 rfl) ?_
  refine k_bipush hX dX8_init_65 (by decide) ?_
  refine h_newa (ty := .int) 1 (M := 24) hC (hts _ (by decide +kernel)) rfl rfl (Or.inr (Or.inl rfl)) rfl (by decide) hH hS (Nat.le_of_ble_eq_true rfl) (Nat.le_of_ble_eq_true rfl) dX8_init_67 (fun H hH hS => ?_)
  refine h_put (fs := [.ref (b + 1), .ref (b + 2), .ref (b + 3), .ref (b + 4), .ref (b + 5), .ref (b + 6), .ref (b + 7), .null, .null, .null, .null, .null, .null, .null, .null, .null, .null, .null, .null, .null, .null, .null, .null, .null, .null, .null, .int (zi 0), .int (zi 0), .int (zi 0), .int (zi 0), .int (zi 0), .long (zl 0)]) (T := TX8) (N := 32) (ci := 9) (v := .ref (b + 8)) hC hin_X8 tyX8 tyX8_ok nmX8 rfl 7 (by decide) (hts (.fieldLink RX8 31 "KioskReelModel" "pileNext" "[I") (by decide +kernel)) rfl (tyX8_ok 7 (by decide)) rfl rfl (Nat.le_of_ble_eq_true rfl) (Nat.le_of_ble_eq_true rfl) rfl hH hS dX8_init_69 (fun H locs hH hS => ?_)
  refine lv_aload_n hx hb dX8_init_72 rfl (lv_at hl 0 rfl) ?_
  refine k_bipush hX dX8_init_73 (by decide) ?_
  refine h_newa (ty := .boolean) 2 (M := 6) hC (hts _ (by decide +kernel)) rfl rfl (Or.inr (Or.inr rfl)) rfl (by decide) hH hS (Nat.le_of_ble_eq_true rfl) (Nat.le_of_ble_eq_true rfl) dX8_init_75 (fun H hH hS => ?_)
  refine h_put (fs := [.ref (b + 1), .ref (b + 2), .ref (b + 3), .ref (b + 4), .ref (b + 5), .ref (b + 6), .ref (b + 7), .ref (b + 8), .null, .null, .null, .null, .null, .null, .null, .null, .null, .null, .null, .null, .null, .null, .null, .null, .null, .null, .int (zi 0), .int (zi 0), .int (zi 0), .int (zi 0), .int (zi 0), .long (zl 0)]) (T := TX8) (N := 32) (ci := 9) (v := .ref (b + 9)) hC hin_X8 tyX8 tyX8_ok nmX8 rfl 8 (by decide) (hts (.fieldLink RX8 34 "KioskReelModel" "hasPlayer" "[Z") (by decide +kernel)) rfl (tyX8_ok 8 (by decide)) rfl rfl (Nat.le_of_ble_eq_true rfl) (Nat.le_of_ble_eq_true rfl) rfl hH hS dX8_init_77 (fun H locs hH hS => ?_)
  refine lv_aload_n hx hb dX8_init_80 rfl (lv_at hl 0 rfl) ?_
  refine k_bipush hX dX8_init_81 (by decide) ?_
  refine h_newa (ty := .boolean) 2 (M := 6) hC (hts _ (by decide +kernel)) rfl rfl (Or.inr (Or.inr rfl)) rfl (by decide) hH hS (Nat.le_of_ble_eq_true rfl) (Nat.le_of_ble_eq_true rfl) dX8_init_83 (fun H hH hS => ?_)
  refine h_put (fs := [.ref (b + 1), .ref (b + 2), .ref (b + 3), .ref (b + 4), .ref (b + 5), .ref (b + 6), .ref (b + 7), .ref (b + 8), .ref (b + 9), .null, .null, .null, .null, .null, .null, .null, .null, .null, .null, .null, .null, .null, .null, .null, .null, .null, .int (zi 0), .int (zi 0), .int (zi 0), .int (zi 0), .int (zi 0), .long (zl 0)]) (T := TX8) (N := 32) (ci := 9) (v := .ref (b + 10)) hC hin_X8 tyX8 tyX8_ok nmX8 rfl 9 (by decide) (hts (.fieldLink RX8 38 "KioskReelModel" "isFrozen" "[Z") (by decide +kernel)) rfl (tyX8_ok 9 (by decide)) rfl rfl (Nat.le_of_ble_eq_true rfl) (Nat.le_of_ble_eq_true rfl) rfl hH hS dX8_init_85 (fun H locs hH hS => ?_)
  refine lv_aload_n hx hb dX8_init_88 rfl (lv_at hl 0 rfl) ?_
  refine k_bipush hX dX8_init_89 (by decide) ?_
  refine h_newa (ty := .boolean) 2 (M := 6) hC (hts _ (by decide +kernel)) rfl rfl (Or.inr (Or.inr rfl)) rfl (by decide) hH hS (Nat.le_of_ble_eq_true rfl) (Nat.le_of_ble_eq_true rfl) dX8_init_91 (fun H hH hS => ?_)
  refine h_put (fs := [.ref (b + 1), .ref (b + 2), .ref (b + 3), .ref (b + 4), .ref (b + 5), .ref (b + 6), .ref (b + 7), .ref (b + 8), .ref (b + 9), .ref (b + 10), .null, .null, .null, .null, .null, .null, .null, .null, .null, .null, .null, .null, .null, .null, .null, .null, .int (zi 0), .int (zi 0), .int (zi 0), .int (zi 0), .int (zi 0), .long (zl 0)]) (T := TX8) (N := 32) (ci := 9) (v := .ref (b + 11)) hC hin_X8 tyX8 tyX8_ok nmX8 rfl 10 (by decide) (hts (.fieldLink RX8 41 "KioskReelModel" "isOut" "[Z") (by decide +kernel)) rfl (tyX8_ok 10 (by decide)) rfl rfl (Nat.le_of_ble_eq_true rfl) (Nat.le_of_ble_eq_true rfl) rfl hH hS dX8_init_93 (fun H locs hH hS => ?_)
  refine lv_aload_n hx hb dX8_init_96 rfl (lv_at hl 0 rfl) ?_
  refine k_bipush hX dX8_init_97 (by decide) ?_
  refine h_newa (ty := .int) 1 (M := 6) hC (hts _ (by decide +kernel)) rfl rfl (Or.inr (Or.inl rfl)) rfl (by decide) hH hS (Nat.le_of_ble_eq_true rfl) (Nat.le_of_ble_eq_true rfl) dX8_init_99 (fun H hH hS => ?_)
  refine h_put (fs := [.ref (b + 1), .ref (b + 2), .ref (b + 3), .ref (b + 4), .ref (b + 5), .ref (b + 6), .ref (b + 7), .ref (b + 8), .ref (b + 9), .ref (b + 10), .ref (b + 11), .null, .null, .null, .null, .null, .null, .null, .null, .null, .null, .null, .null, .null, .null, .null, .int (zi 0), .int (zi 0), .int (zi 0), .int (zi 0), .int (zi 0), .long (zl 0)]) (T := TX8) (N := 32) (ci := 9) (v := .ref (b + 12)) hC hin_X8 tyX8 tyX8_ok nmX8 rfl 11 (by decide) (hts (.fieldLink RX8 44 "KioskReelModel" "depth" "[I") (by decide +kernel)) rfl (tyX8_ok 11 (by decide)) rfl rfl (Nat.le_of_ble_eq_true rfl) (Nat.le_of_ble_eq_true rfl) rfl hH hS dX8_init_101 (fun H locs hH hS => ?_)
  refine lv_aload_n hx hb dX8_init_104 rfl (lv_at hl 0 rfl) ?_
  refine k_bipush hX dX8_init_105 (by decide) ?_
  refine h_newa (ty := .int) 1 (M := 6) hC (hts _ (by decide +kernel)) rfl rfl (Or.inr (Or.inl rfl)) rfl (by decide) hH hS (Nat.le_of_ble_eq_true rfl) (Nat.le_of_ble_eq_true rfl) dX8_init_107 (fun H hH hS => ?_)
  refine h_put (fs := [.ref (b + 1), .ref (b + 2), .ref (b + 3), .ref (b + 4), .ref (b + 5), .ref (b + 6), .ref (b + 7), .ref (b + 8), .ref (b + 9), .ref (b + 10), .ref (b + 11), .ref (b + 12), .null, .null, .null, .null, .null, .null, .null, .null, .null, .null, .null, .null, .null, .null, .int (zi 0), .int (zi 0), .int (zi 0), .int (zi 0), .int (zi 0), .long (zl 0)]) (T := TX8) (N := 32) (ci := 9) (v := .ref (b + 13)) hC hin_X8 tyX8 tyX8_ok nmX8 rfl 12 (by decide) (hts (.fieldLink RX8 47 "KioskReelModel" "at" "[I") (by decide +kernel)) rfl (tyX8_ok 12 (by decide)) rfl rfl (Nat.le_of_ble_eq_true rfl) (Nat.le_of_ble_eq_true rfl) rfl hH hS dX8_init_109 (fun H locs hH hS => ?_)
  refine lv_aload_n hx hb dX8_init_112 rfl (lv_at hl 0 rfl) ?_
  refine k_bipush hX dX8_init_113 (by decide) ?_
  refine h_newa (ty := .int) 1 (M := 6) hC (hts _ (by decide +kernel)) rfl rfl (Or.inr (Or.inl rfl)) rfl (by decide) hH hS (Nat.le_of_ble_eq_true rfl) (Nat.le_of_ble_eq_true rfl) dX8_init_115 (fun H hH hS => ?_)
  refine h_put (fs := [.ref (b + 1), .ref (b + 2), .ref (b + 3), .ref (b + 4), .ref (b + 5), .ref (b + 6), .ref (b + 7), .ref (b + 8), .ref (b + 9), .ref (b + 10), .ref (b + 11), .ref (b + 12), .ref (b + 13), .null, .null, .null, .null, .null, .null, .null, .null, .null, .null, .null, .null, .null, .int (zi 0), .int (zi 0), .int (zi 0), .int (zi 0), .int (zi 0), .long (zl 0)]) (T := TX8) (N := 32) (ci := 9) (v := .ref (b + 14)) hC hin_X8 tyX8 tyX8_ok nmX8 rfl 13 (by decide) (hts (.fieldLink RX8 50 "KioskReelModel" "counts" "[I") (by decide +kernel)) rfl (tyX8_ok 13 (by decide)) rfl rfl (Nat.le_of_ble_eq_true rfl) (Nat.le_of_ble_eq_true rfl) rfl hH hS dX8_init_117 (fun H locs hH hS => ?_)
  refine lv_aload_n hx hb dX8_init_120 rfl (lv_at hl 0 rfl) ?_
  refine k_bipush hX dX8_init_121 (by decide) ?_
  refine h_newa (ty := .int) 1 (M := 6) hC (hts _ (by decide +kernel)) rfl rfl (Or.inr (Or.inl rfl)) rfl (by decide) hH hS (Nat.le_of_ble_eq_true rfl) (Nat.le_of_ble_eq_true rfl) dX8_init_123 (fun H hH hS => ?_)
  refine h_put (fs := [.ref (b + 1), .ref (b + 2), .ref (b + 3), .ref (b + 4), .ref (b + 5), .ref (b + 6), .ref (b + 7), .ref (b + 8), .ref (b + 9), .ref (b + 10), .ref (b + 11), .ref (b + 12), .ref (b + 13), .ref (b + 14), .null, .null, .null, .null, .null, .null, .null, .null, .null, .null, .null, .null, .int (zi 0), .int (zi 0), .int (zi 0), .int (zi 0), .int (zi 0), .long (zl 0)]) (T := TX8) (N := 32) (ci := 9) (v := .ref (b + 15)) hC hin_X8 tyX8 tyX8_ok nmX8 rfl 14 (by decide) (hts (.fieldLink RX8 53 "KioskReelModel" "ticks" "[I") (by decide +kernel)) rfl (tyX8_ok 14 (by decide)) rfl rfl (Nat.le_of_ble_eq_true rfl) (Nat.le_of_ble_eq_true rfl) rfl hH hS dX8_init_125 (fun H locs hH hS => ?_)
  refine lv_aload_n hx hb dX8_init_128 rfl (lv_at hl 0 rfl) ?_
  refine k_bipush hX dX8_init_129 (by decide) ?_
  refine h_newa (ty := .int) 1 (M := 6) hC (hts _ (by decide +kernel)) rfl rfl (Or.inr (Or.inl rfl)) rfl (by decide) hH hS (Nat.le_of_ble_eq_true rfl) (Nat.le_of_ble_eq_true rfl) dX8_init_131 (fun H hH hS => ?_)
  refine h_put (fs := [.ref (b + 1), .ref (b + 2), .ref (b + 3), .ref (b + 4), .ref (b + 5), .ref (b + 6), .ref (b + 7), .ref (b + 8), .ref (b + 9), .ref (b + 10), .ref (b + 11), .ref (b + 12), .ref (b + 13), .ref (b + 14), .ref (b + 15), .null, .null, .null, .null, .null, .null, .null, .null, .null, .null, .null, .int (zi 0), .int (zi 0), .int (zi 0), .int (zi 0), .int (zi 0), .long (zl 0)]) (T := TX8) (N := 32) (ci := 9) (v := .ref (b + 16)) hC hin_X8 tyX8 tyX8_ok nmX8 rfl 15 (by decide) (hts (.fieldLink RX8 56 "KioskReelModel" "wanted" "[I") (by decide +kernel)) rfl (tyX8_ok 15 (by decide)) rfl rfl (Nat.le_of_ble_eq_true rfl) (Nat.le_of_ble_eq_true rfl) rfl hH hS dX8_init_133 (fun H locs hH hS => ?_)
  refine lv_aload_n hx hb dX8_init_136 rfl (lv_at hl 0 rfl) ?_
  refine k_bipush hX dX8_init_137 (by decide) ?_
  refine h_newa (ty := .int) 1 (M := 6) hC (hts _ (by decide +kernel)) rfl rfl (Or.inr (Or.inl rfl)) rfl (by decide) hH hS (Nat.le_of_ble_eq_true rfl) (Nat.le_of_ble_eq_true rfl) dX8_init_139 (fun H hH hS => ?_)
  refine h_put (fs := [.ref (b + 1), .ref (b + 2), .ref (b + 3), .ref (b + 4), .ref (b + 5), .ref (b + 6), .ref (b + 7), .ref (b + 8), .ref (b + 9), .ref (b + 10), .ref (b + 11), .ref (b + 12), .ref (b + 13), .ref (b + 14), .ref (b + 15), .ref (b + 16), .null, .null, .null, .null, .null, .null, .null, .null, .null, .null, .int (zi 0), .int (zi 0), .int (zi 0), .int (zi 0), .int (zi 0), .long (zl 0)]) (T := TX8) (N := 32) (ci := 9) (v := .ref (b + 17)) hC hin_X8 tyX8 tyX8_ok nmX8 rfl 16 (by decide) (hts (.fieldLink RX8 59 "KioskReelModel" "frozenFor" "[I") (by decide +kernel)) rfl (tyX8_ok 16 (by decide)) rfl rfl (Nat.le_of_ble_eq_true rfl) (Nat.le_of_ble_eq_true rfl) rfl hH hS dX8_init_141 (fun H locs hH hS => ?_)
  refine lv_aload_n hx hb dX8_init_144 rfl (lv_at hl 0 rfl) ?_
  refine k_bipush hX dX8_init_145 (by decide) ?_
  refine h_newa (ty := .int) 1 (M := 6) hC (hts _ (by decide +kernel)) rfl rfl (Or.inr (Or.inl rfl)) rfl (by decide) hH hS (Nat.le_of_ble_eq_true rfl) (Nat.le_of_ble_eq_true rfl) dX8_init_147 (fun H hH hS => ?_)
  refine h_put (fs := [.ref (b + 1), .ref (b + 2), .ref (b + 3), .ref (b + 4), .ref (b + 5), .ref (b + 6), .ref (b + 7), .ref (b + 8), .ref (b + 9), .ref (b + 10), .ref (b + 11), .ref (b + 12), .ref (b + 13), .ref (b + 14), .ref (b + 15), .ref (b + 16), .ref (b + 17), .null, .null, .null, .null, .null, .null, .null, .null, .null, .int (zi 0), .int (zi 0), .int (zi 0), .int (zi 0), .int (zi 0), .long (zl 0)]) (T := TX8) (N := 32) (ci := 9) (v := .ref (b + 18)) hC hin_X8 tyX8 tyX8_ok nmX8 rfl 17 (by decide) (hts (.fieldLink RX8 62 "KioskReelModel" "slide" "[I") (by decide +kernel)) rfl (tyX8_ok 17 (by decide)) rfl rfl (Nat.le_of_ble_eq_true rfl) (Nat.le_of_ble_eq_true rfl) rfl hH hS dX8_init_149 (fun H locs hH hS => ?_)
  refine lv_aload_n hx hb dX8_init_152 rfl (lv_at hl 0 rfl) ?_
  refine k_bipush hX dX8_init_153 (by decide) ?_
  refine h_newa (ty := .int) 1 (M := 36) hC (hts _ (by decide +kernel)) rfl rfl (Or.inr (Or.inl rfl)) rfl (by decide) hH hS (Nat.le_of_ble_eq_true rfl) (Nat.le_of_ble_eq_true rfl) dX8_init_155 (fun H hH hS => ?_)
  refine h_put (fs := [.ref (b + 1), .ref (b + 2), .ref (b + 3), .ref (b + 4), .ref (b + 5), .ref (b + 6), .ref (b + 7), .ref (b + 8), .ref (b + 9), .ref (b + 10), .ref (b + 11), .ref (b + 12), .ref (b + 13), .ref (b + 14), .ref (b + 15), .ref (b + 16), .ref (b + 17), .ref (b + 18), .null, .null, .null, .null, .null, .null, .null, .null, .int (zi 0), .int (zi 0), .int (zi 0), .int (zi 0), .int (zi 0), .long (zl 0)]) (T := TX8) (N := 32) (ci := 9) (v := .ref (b + 19)) hC hin_X8 tyX8 tyX8_ok nmX8 rfl 18 (by decide) (hts (.fieldLink RX8 65 "KioskReelModel" "playing" "[I") (by decide +kernel)) rfl (tyX8_ok 18 (by decide)) rfl rfl (Nat.le_of_ble_eq_true rfl) (Nat.le_of_ble_eq_true rfl) rfl hH hS dX8_init_157 (fun H locs hH hS => ?_)
  refine lv_aload_n hx hb dX8_init_160 rfl (lv_at hl 0 rfl) ?_
  refine k_bipush hX dX8_init_161 (by decide) ?_
  refine h_newa (ty := .int) 1 (M := 6) hC (hts _ (by decide +kernel)) rfl rfl (Or.inr (Or.inl rfl)) rfl (by decide) hH hS (Nat.le_of_ble_eq_true rfl) (Nat.le_of_ble_eq_true rfl) dX8_init_163 (fun H hH hS => ?_)
  refine h_put (fs := [.ref (b + 1), .ref (b + 2), .ref (b + 3), .ref (b + 4), .ref (b + 5), .ref (b + 6), .ref (b + 7), .ref (b + 8), .ref (b + 9), .ref (b + 10), .ref (b + 11), .ref (b + 12), .ref (b + 13), .ref (b + 14), .ref (b + 15), .ref (b + 16), .ref (b + 17), .ref (b + 18), .ref (b + 19), .null, .null, .null, .null, .null, .null, .null, .int (zi 0), .int (zi 0), .int (zi 0), .int (zi 0), .int (zi 0), .long (zl 0)]) (T := TX8) (N := 32) (ci := 9) (v := .ref (b + 20)) hC hin_X8 tyX8 tyX8_ok nmX8 rfl 19 (by decide) (hts (.fieldLink RX8 68 "KioskReelModel" "playingMany" "[I") (by decide +kernel)) rfl (tyX8_ok 19 (by decide)) rfl rfl (Nat.le_of_ble_eq_true rfl) (Nat.le_of_ble_eq_true rfl) rfl hH hS dX8_init_165 (fun H locs hH hS => ?_)
  refine lv_aload_n hx hb dX8_init_168 rfl (lv_at hl 0 rfl) ?_
  refine k_bipush hX dX8_init_169 (by decide) ?_
  refine h_newa (ty := .int) 1 (M := 6) hC (hts _ (by decide +kernel)) rfl rfl (Or.inr (Or.inl rfl)) rfl (by decide) hH hS (Nat.le_of_ble_eq_true rfl) (Nat.le_of_ble_eq_true rfl) dX8_init_171 (fun H hH hS => ?_)
  refine h_put (fs := [.ref (b + 1), .ref (b + 2), .ref (b + 3), .ref (b + 4), .ref (b + 5), .ref (b + 6), .ref (b + 7), .ref (b + 8), .ref (b + 9), .ref (b + 10), .ref (b + 11), .ref (b + 12), .ref (b + 13), .ref (b + 14), .ref (b + 15), .ref (b + 16), .ref (b + 17), .ref (b + 18), .ref (b + 19), .ref (b + 20), .null, .null, .null, .null, .null, .null, .int (zi 0), .int (zi 0), .int (zi 0), .int (zi 0), .int (zi 0), .long (zl 0)]) (T := TX8) (N := 32) (ci := 9) (v := .ref (b + 21)) hC hin_X8 tyX8 tyX8_ok nmX8 rfl 20 (by decide) (hts (.fieldLink RX8 71 "KioskReelModel" "holder" "[I") (by decide +kernel)) rfl (tyX8_ok 20 (by decide)) rfl rfl (Nat.le_of_ble_eq_true rfl) (Nat.le_of_ble_eq_true rfl) rfl hH hS dX8_init_173 (fun H locs hH hS => ?_)
  refine lv_aload_n hx hb dX8_init_176 rfl (lv_at hl 0 rfl) ?_
  refine k_bipush hX dX8_init_177 (by decide) ?_
  refine h_newa (ty := .int) 1 (M := 36) hC (hts _ (by decide +kernel)) rfl rfl (Or.inr (Or.inl rfl)) rfl (by decide) hH hS (Nat.le_of_ble_eq_true rfl) (Nat.le_of_ble_eq_true rfl) dX8_init_179 (fun H hH hS => ?_)
  refine h_put (fs := [.ref (b + 1), .ref (b + 2), .ref (b + 3), .ref (b + 4), .ref (b + 5), .ref (b + 6), .ref (b + 7), .ref (b + 8), .ref (b + 9), .ref (b + 10), .ref (b + 11), .ref (b + 12), .ref (b + 13), .ref (b + 14), .ref (b + 15), .ref (b + 16), .ref (b + 17), .ref (b + 18), .ref (b + 19), .ref (b + 20), .ref (b + 21), .null, .null, .null, .null, .null, .int (zi 0), .int (zi 0), .int (zi 0), .int (zi 0), .int (zi 0), .long (zl 0)]) (T := TX8) (N := 32) (ci := 9) (v := .ref (b + 22)) hC hin_X8 tyX8 tyX8_ok nmX8 rfl 21 (by decide) (hts (.fieldLink RX8 74 "KioskReelModel" "queue" "[I") (by decide +kernel)) rfl (tyX8_ok 21 (by decide)) rfl rfl (Nat.le_of_ble_eq_true rfl) (Nat.le_of_ble_eq_true rfl) rfl hH hS dX8_init_181 (fun H locs hH hS => ?_)
  refine lv_aload_n hx hb dX8_init_184 rfl (lv_at hl 0 rfl) ?_
  refine k_bipush hX dX8_init_185 (by decide) ?_
  refine h_newa (ty := .int) 1 (M := 6) hC (hts _ (by decide +kernel)) rfl rfl (Or.inr (Or.inl rfl)) rfl (by decide) hH hS (Nat.le_of_ble_eq_true rfl) (Nat.le_of_ble_eq_true rfl) dX8_init_187 (fun H hH hS => ?_)
  refine h_put (fs := [.ref (b + 1), .ref (b + 2), .ref (b + 3), .ref (b + 4), .ref (b + 5), .ref (b + 6), .ref (b + 7), .ref (b + 8), .ref (b + 9), .ref (b + 10), .ref (b + 11), .ref (b + 12), .ref (b + 13), .ref (b + 14), .ref (b + 15), .ref (b + 16), .ref (b + 17), .ref (b + 18), .ref (b + 19), .ref (b + 20), .ref (b + 21), .ref (b + 22), .null, .null, .null, .null, .int (zi 0), .int (zi 0), .int (zi 0), .int (zi 0), .int (zi 0), .long (zl 0)]) (T := TX8) (N := 32) (ci := 9) (v := .ref (b + 23)) hC hin_X8 tyX8 tyX8_ok nmX8 rfl 22 (by decide) (hts (.fieldLink RX8 77 "KioskReelModel" "queueMany" "[I") (by decide +kernel)) rfl (tyX8_ok 22 (by decide)) rfl rfl (Nat.le_of_ble_eq_true rfl) (Nat.le_of_ble_eq_true rfl) rfl hH hS dX8_init_189 (fun H locs hH hS => ?_)
  refine lv_aload_n hx hb dX8_init_192 rfl (lv_at hl 0 rfl) ?_
  refine k_sipush hX dX8_init_193 (by decide) ?_
  refine h_newa (ty := .int) 1 (M := 1000) hC (hts _ (by decide +kernel)) rfl rfl (Or.inr (Or.inl rfl)) rfl (by decide) hH hS (Nat.le_of_ble_eq_true rfl) (Nat.le_of_ble_eq_true rfl) dX8_init_196 (fun H hH hS => ?_)
  refine h_put (fs := [.ref (b + 1), .ref (b + 2), .ref (b + 3), .ref (b + 4), .ref (b + 5), .ref (b + 6), .ref (b + 7), .ref (b + 8), .ref (b + 9), .ref (b + 10), .ref (b + 11), .ref (b + 12), .ref (b + 13), .ref (b + 14), .ref (b + 15), .ref (b + 16), .ref (b + 17), .ref (b + 18), .ref (b + 19), .ref (b + 20), .ref (b + 21), .ref (b + 22), .ref (b + 23), .null, .null, .null, .int (zi 0), .int (zi 0), .int (zi 0), .int (zi 0), .int (zi 0), .long (zl 0)]) (T := TX8) (N := 32) (ci := 9) (v := .ref (b + 24)) hC hin_X8 tyX8 tyX8_ok nmX8 rfl 23 (by decide) (hts (.fieldLink RX8 80 "KioskReelModel" "saw" "[I") (by decide +kernel)) rfl (tyX8_ok 23 (by decide)) rfl rfl (Nat.le_of_ble_eq_true rfl) (Nat.le_of_ble_eq_true rfl) rfl hH hS dX8_init_198 (fun H locs hH hS => ?_)
  refine lv_aload_n hx hb dX8_init_201 rfl (lv_at hl 0 rfl) ?_
  refine k_bipush hX dX8_init_202 (by decide) ?_
  refine h_newa (ty := .int) 1 (M := 10) hC (hts _ (by decide +kernel)) rfl rfl (Or.inr (Or.inl rfl)) rfl (by decide) hH hS (Nat.le_of_ble_eq_true rfl) (Nat.le_of_ble_eq_true rfl) dX8_init_204 (fun H hH hS => ?_)
  refine h_put (fs := [.ref (b + 1), .ref (b + 2), .ref (b + 3), .ref (b + 4), .ref (b + 5), .ref (b + 6), .ref (b + 7), .ref (b + 8), .ref (b + 9), .ref (b + 10), .ref (b + 11), .ref (b + 12), .ref (b + 13), .ref (b + 14), .ref (b + 15), .ref (b + 16), .ref (b + 17), .ref (b + 18), .ref (b + 19), .ref (b + 20), .ref (b + 21), .ref (b + 22), .ref (b + 23), .ref (b + 24), .null, .null, .int (zi 0), .int (zi 0), .int (zi 0), .int (zi 0), .int (zi 0), .long (zl 0)]) (T := TX8) (N := 32) (ci := 9) (v := .ref (b + 25)) hC hin_X8 tyX8 tyX8_ok nmX8 rfl 24 (by decide) (hts (.fieldLink RX8 83 "KioskReelModel" "place" "[I") (by decide +kernel)) rfl (tyX8_ok 24 (by decide)) rfl rfl (Nat.le_of_ble_eq_true rfl) (Nat.le_of_ble_eq_true rfl) rfl hH hS dX8_init_206 (fun H locs hH hS => ?_)
  refine lv_aload_n hx hb dX8_init_209 rfl (lv_at hl 0 rfl) ?_
  refine k_sipush hX dX8_init_210 (by decide) ?_
  refine h_newa (ty := .boolean) 2 (M := 1000) hC (hts _ (by decide +kernel)) rfl rfl (Or.inr (Or.inr rfl)) rfl (by decide) hH hS (Nat.le_of_ble_eq_true rfl) (Nat.le_of_ble_eq_true rfl) dX8_init_213 (fun H hH hS => ?_)
  refine h_put (fs := [.ref (b + 1), .ref (b + 2), .ref (b + 3), .ref (b + 4), .ref (b + 5), .ref (b + 6), .ref (b + 7), .ref (b + 8), .ref (b + 9), .ref (b + 10), .ref (b + 11), .ref (b + 12), .ref (b + 13), .ref (b + 14), .ref (b + 15), .ref (b + 16), .ref (b + 17), .ref (b + 18), .ref (b + 19), .ref (b + 20), .ref (b + 21), .ref (b + 22), .ref (b + 23), .ref (b + 24), .ref (b + 25), .null, .int (zi 0), .int (zi 0), .int (zi 0), .int (zi 0), .int (zi 0), .long (zl 0)]) (T := TX8) (N := 32) (ci := 9) (v := .ref (b + 26)) hC hin_X8 tyX8 tyX8_ok nmX8 rfl 25 (by decide) (hts (.fieldLink RX8 86 "KioskReelModel" "asked" "[Z") (by decide +kernel)) rfl (tyX8_ok 25 (by decide)) rfl rfl (Nat.le_of_ble_eq_true rfl) (Nat.le_of_ble_eq_true rfl) rfl hH hS dX8_init_215 (fun H locs hH hS => ?_)
  have hH := hH.conv (g := modF cA b 0 0) (fun k hk => match k, hk with | 0, _ => rfl | 1, _ => rfl | 2, _ => rfl | 3, _ => rfl | 4, _ => rfl | 5, _ => rfl | 6, _ => rfl | 7, _ => rfl | 8, _ => rfl | 9, _ => rfl | 10, _ => rfl | 11, _ => rfl | 12, _ => rfl | 13, _ => by rw [show modF cA b 0 0 13 = .inl (cA 1, 6, .inl (fun j => zi (mrow 0 (j : Int)))) from rfl, ← mrow_f]; rfl | 14, _ => rfl | 15, _ => rfl | 16, _ => by rw [show modF cA b 0 0 16 = .inl (cA 1, 6, .inl (fun j => zi (mrow 0 (j : Int)))) from rfl, ← mrow_f]; rfl | 17, _ => rfl | 18, _ => by rw [show modF cA b 0 0 18 = .inl (cA 1, 6, .inl (fun j => zi (mrow 0 (j : Int)))) from rfl, ← mrow_f]; rfl | 19, _ => rfl | 20, _ => rfl | 21, _ => by rw [show modF cA b 0 0 21 = .inl (cA 1, 6, .inl (fun j => zi (mrow 0 (j : Int)))) from rfl, ← mrow_f]; rfl | 22, _ => rfl | 23, _ => rfl | 24, _ => rfl | 25, _ => by rw [show modF cA b 0 0 25 = .inl (cA 1, 10, .inl (fun j => zi (mrow 0 (j : Int)))) from rfl, ← mrow_f]; rfl | 26, _ => rfl | k + 27, h => absurd h (by omega))
  have L2 : ∀ (k9 v : Nat), v + k9 = 10 → ∀ (H : Heap) (locs : List Loc) (ls : Array Slot), HS Dg b 27 (modF cA b 6 v) H → va_S (NA b) s₀.heap H locs → lv_has ls 2 [(1, .int (zi (v : Int))), (0, .ref b)] → W pgm l env (headSpec wsX8_init ({ frames := 1, cells := 26, slots := 3520, locals := 12 } : Room)).room s₀ m₀ [Value.ref b].toArray bel mth cod H locs 26 3520 (MQ bel (va_Qv (fun _ : Unit => True) (fun (_ : Unit) (t : State) => HS Dg b 27 (modF cA b 6 10) t.heap) (NA b)) [Value.ref b].toArray s₀ 26 3520 (NA b)) (F0 m₀ 262 ls []) := by
    intro k9
    induction k9 with
    | zero =>
      intro v hv H locs ls hH hS hl
      have hv : v = 10 := by omega
      subst hv
      refine lv_iload_n hx hb dX8_init_262 rfl (lv_at hl 0 rfl) ?_
      refine k_bipush hX dX8_init_263 (by decide) ?_
      refine k_icmp_ge (tgt := 281) hX dX8_init_265 (by decide) ⟨⟨by decide, by decide⟩, ⟨by decide, by decide⟩⟩ (fun _ => ?_) (fun z => absurd z (by decide))
      exact h_ret hC hH hS dX8_init_281
    | succ k9 ih =>
      intro v hv H locs ls hH hS hl
      have hv9 : v < 10 := by omega
      refine lv_iload_n hx hb dX8_init_262 rfl (lv_at hl 0 rfl) ?_
      refine k_bipush hX dX8_init_263 (by decide) ?_
      refine k_icmp_ge (tgt := 281) hX dX8_init_265 (by decide) ⟨⟨by omega, by omega⟩, ⟨by decide, by decide⟩⟩ (fun z => absurd z (by omega)) (fun _ => ?_)
      refine lv_aload_n hx hb dX8_init_268 rfl (lv_at hl 1 rfl) ?_
      refine h_get (fs := [.ref (b + 1), .ref (b + 2), .ref (b + 3), .ref (b + 4), .ref (b + 5), .ref (b + 6), .ref (b + 7), .ref (b + 8), .ref (b + 9), .ref (b + 10), .ref (b + 11), .ref (b + 12), .ref (b + 13), .ref (b + 14), .ref (b + 15), .ref (b + 16), .ref (b + 17), .ref (b + 18), .ref (b + 19), .ref (b + 20), .ref (b + 21), .ref (b + 22), .ref (b + 23), .ref (b + 24), .ref (b + 25), .ref (b + 26), .int (zi 0), .int (zi 0), .int (zi 0), .int (zi 0), .int (zi 0), .long (zl 0)]) (T := TX8) (N := 32) (ci := 9) (v := .ref (b + 25)) hC hin_X8 rfl 24 (by decide) (hts (.fieldLink RX8 83 "KioskReelModel" "place" "[I") (by decide +kernel)) rfl rfl (by decide) rfl hH dX8_init_269 ?_
      refine lv_iload_n hx hb dX8_init_272 rfl (lv_at hl 0 rfl) ?_
      refine k_iconst hX dX8_init_273 ?_
      refine h_iast (M := 10) (j := 25) (g := mrow v) (mrow (v + 1)) hC (by decide) rfl (by decide) (by omega) (fun i _ _ => mrow_s v i) hH hS dX8_init_274 (fun H locs hH hS => ?_)
      have hH := hH.conv (g := modF cA b 6 (v + 1)) (fun k hk => match k, hk with | 0, _ => rfl | 1, _ => rfl | 2, _ => rfl | 3, _ => rfl | 4, _ => rfl | 5, _ => rfl | 6, _ => rfl | 7, _ => rfl | 8, _ => rfl | 9, _ => rfl | 10, _ => rfl | 11, _ => rfl | 12, _ => rfl | 13, _ => rfl | 14, _ => rfl | 15, _ => rfl | 16, _ => rfl | 17, _ => rfl | 18, _ => rfl | 19, _ => rfl | 20, _ => rfl | 21, _ => rfl | 22, _ => rfl | 23, _ => rfl | 24, _ => rfl | 25, _ => rfl | 26, _ => rfl | k + 27, h => absurd h (by omega))
      refine k_iinc (k := 0) (a := (v : Int)) (lv' := [(1, .int (zi ((v : Int) + 1))), (0, .ref b)]) hX dX8_init_275 hl rfl (by decide) rfl (fun ls hl => ?_)
      refine lv_goto (tgt := 262) hx hb dX8_init_278 (by decide) ?_
      exact ih (v + 1) (by omega) H _ ls hH hS hl
  have L1 : ∀ (k9 v : Nat), v + k9 = 6 → ∀ (H : Heap) (locs : List Loc) (ls : Array Slot), HS Dg b 27 (modF cA b v 0) H → va_S (NA b) s₀.heap H locs → lv_has ls 2 [(1, .int (zi (v : Int))), (0, .ref b)] → W pgm l env (headSpec wsX8_init ({ frames := 1, cells := 26, slots := 3520, locals := 12 } : Room)).room s₀ m₀ [Value.ref b].toArray bel mth cod H locs 26 3520 (MQ bel (va_Qv (fun _ : Unit => True) (fun (_ : Unit) (t : State) => HS Dg b 27 (modF cA b 6 10) t.heap) (NA b)) [Value.ref b].toArray s₀ 26 3520 (NA b)) (F0 m₀ 220 ls []) := by
    intro k9
    induction k9 with
    | zero =>
      intro v hv H locs ls hH hS hl
      have hv : v = 6 := by omega
      subst hv
      refine lv_iload_n hx hb dX8_init_220 rfl (lv_at hl 0 rfl) ?_
      refine k_bipush hX dX8_init_221 (by decide) ?_
      refine k_icmp_ge (tgt := 260) hX dX8_init_223 (by decide) ⟨⟨by decide, by decide⟩, ⟨by decide, by decide⟩⟩ (fun _ => ?_) (fun z => absurd z (by decide))
      refine k_iconst hX dX8_init_260 ?_
      refine lv_istore_n (lv' := [(1, .int (zi 0)), (0, .ref b)]) hx hb dX8_init_261 rfl hl (by decide) rfl (fun ls hl => ?_)
      exact L2 10 0 (by omega) H locs ls hH hS hl
    | succ k9 ih =>
      intro v hv H locs ls hH hS hl
      have hv9 : v < 6 := by omega
      refine lv_iload_n hx hb dX8_init_220 rfl (lv_at hl 0 rfl) ?_
      refine k_bipush hX dX8_init_221 (by decide) ?_
      refine k_icmp_ge (tgt := 260) hX dX8_init_223 (by decide) ⟨⟨by omega, by omega⟩, ⟨by decide, by decide⟩⟩ (fun z => absurd z (by omega)) (fun _ => ?_)
      refine lv_aload_n hx hb dX8_init_226 rfl (lv_at hl 1 rfl) ?_
      refine h_get (fs := [.ref (b + 1), .ref (b + 2), .ref (b + 3), .ref (b + 4), .ref (b + 5), .ref (b + 6), .ref (b + 7), .ref (b + 8), .ref (b + 9), .ref (b + 10), .ref (b + 11), .ref (b + 12), .ref (b + 13), .ref (b + 14), .ref (b + 15), .ref (b + 16), .ref (b + 17), .ref (b + 18), .ref (b + 19), .ref (b + 20), .ref (b + 21), .ref (b + 22), .ref (b + 23), .ref (b + 24), .ref (b + 25), .ref (b + 26), .int (zi 0), .int (zi 0), .int (zi 0), .int (zi 0), .int (zi 0), .long (zl 0)]) (T := TX8) (N := 32) (ci := 9) (v := .ref (b + 13)) hC hin_X8 rfl 12 (by decide) (hts (.fieldLink RX8 47 "KioskReelModel" "at" "[I") (by decide +kernel)) rfl rfl (by decide) rfl hH dX8_init_227 ?_
      refine lv_iload_n hx hb dX8_init_230 rfl (lv_at hl 0 rfl) ?_
      refine k_iconst hX dX8_init_231 ?_
      refine h_iast (M := 6) (j := 13) (g := mrow v) (mrow (v + 1)) hC (by decide) rfl (by decide) (by omega) (fun i _ _ => mrow_s v i) hH hS dX8_init_232 (fun H locs hH hS => ?_)
      refine lv_aload_n hx hb dX8_init_233 rfl (lv_at hl 1 rfl) ?_
      refine h_get (fs := [.ref (b + 1), .ref (b + 2), .ref (b + 3), .ref (b + 4), .ref (b + 5), .ref (b + 6), .ref (b + 7), .ref (b + 8), .ref (b + 9), .ref (b + 10), .ref (b + 11), .ref (b + 12), .ref (b + 13), .ref (b + 14), .ref (b + 15), .ref (b + 16), .ref (b + 17), .ref (b + 18), .ref (b + 19), .ref (b + 20), .ref (b + 21), .ref (b + 22), .ref (b + 23), .ref (b + 24), .ref (b + 25), .ref (b + 26), .int (zi 0), .int (zi 0), .int (zi 0), .int (zi 0), .int (zi 0), .long (zl 0)]) (T := TX8) (N := 32) (ci := 9) (v := .ref (b + 16)) hC hin_X8 rfl 15 (by decide) (hts (.fieldLink RX8 56 "KioskReelModel" "wanted" "[I") (by decide +kernel)) rfl rfl (by decide) rfl hH dX8_init_234 ?_
      refine lv_iload_n hx hb dX8_init_237 rfl (lv_at hl 0 rfl) ?_
      refine k_iconst hX dX8_init_238 ?_
      refine h_iast (M := 6) (j := 16) (g := mrow v) (mrow (v + 1)) hC (by decide) rfl (by decide) (by omega) (fun i _ _ => mrow_s v i) hH hS dX8_init_239 (fun H locs hH hS => ?_)
      refine lv_aload_n hx hb dX8_init_240 rfl (lv_at hl 1 rfl) ?_
      refine h_get (fs := [.ref (b + 1), .ref (b + 2), .ref (b + 3), .ref (b + 4), .ref (b + 5), .ref (b + 6), .ref (b + 7), .ref (b + 8), .ref (b + 9), .ref (b + 10), .ref (b + 11), .ref (b + 12), .ref (b + 13), .ref (b + 14), .ref (b + 15), .ref (b + 16), .ref (b + 17), .ref (b + 18), .ref (b + 19), .ref (b + 20), .ref (b + 21), .ref (b + 22), .ref (b + 23), .ref (b + 24), .ref (b + 25), .ref (b + 26), .int (zi 0), .int (zi 0), .int (zi 0), .int (zi 0), .int (zi 0), .long (zl 0)]) (T := TX8) (N := 32) (ci := 9) (v := .ref (b + 18)) hC hin_X8 rfl 17 (by decide) (hts (.fieldLink RX8 62 "KioskReelModel" "slide" "[I") (by decide +kernel)) rfl rfl (by decide) rfl hH dX8_init_241 ?_
      refine lv_iload_n hx hb dX8_init_244 rfl (lv_at hl 0 rfl) ?_
      refine k_iconst hX dX8_init_245 ?_
      refine h_iast (M := 6) (j := 18) (g := mrow v) (mrow (v + 1)) hC (by decide) rfl (by decide) (by omega) (fun i _ _ => mrow_s v i) hH hS dX8_init_246 (fun H locs hH hS => ?_)
      refine lv_aload_n hx hb dX8_init_247 rfl (lv_at hl 1 rfl) ?_
      refine h_get (fs := [.ref (b + 1), .ref (b + 2), .ref (b + 3), .ref (b + 4), .ref (b + 5), .ref (b + 6), .ref (b + 7), .ref (b + 8), .ref (b + 9), .ref (b + 10), .ref (b + 11), .ref (b + 12), .ref (b + 13), .ref (b + 14), .ref (b + 15), .ref (b + 16), .ref (b + 17), .ref (b + 18), .ref (b + 19), .ref (b + 20), .ref (b + 21), .ref (b + 22), .ref (b + 23), .ref (b + 24), .ref (b + 25), .ref (b + 26), .int (zi 0), .int (zi 0), .int (zi 0), .int (zi 0), .int (zi 0), .long (zl 0)]) (T := TX8) (N := 32) (ci := 9) (v := .ref (b + 21)) hC hin_X8 rfl 20 (by decide) (hts (.fieldLink RX8 71 "KioskReelModel" "holder" "[I") (by decide +kernel)) rfl rfl (by decide) rfl hH dX8_init_248 ?_
      refine lv_iload_n hx hb dX8_init_251 rfl (lv_at hl 0 rfl) ?_
      refine k_iconst hX dX8_init_252 ?_
      refine h_iast (M := 6) (j := 21) (g := mrow v) (mrow (v + 1)) hC (by decide) rfl (by decide) (by omega) (fun i _ _ => mrow_s v i) hH hS dX8_init_253 (fun H locs hH hS => ?_)
      have hH := hH.conv (g := modF cA b (v + 1) 0) (fun k hk => match k, hk with | 0, _ => rfl | 1, _ => rfl | 2, _ => rfl | 3, _ => rfl | 4, _ => rfl | 5, _ => rfl | 6, _ => rfl | 7, _ => rfl | 8, _ => rfl | 9, _ => rfl | 10, _ => rfl | 11, _ => rfl | 12, _ => rfl | 13, _ => rfl | 14, _ => rfl | 15, _ => rfl | 16, _ => rfl | 17, _ => rfl | 18, _ => rfl | 19, _ => rfl | 20, _ => rfl | 21, _ => rfl | 22, _ => rfl | 23, _ => rfl | 24, _ => rfl | 25, _ => rfl | 26, _ => rfl | k + 27, h => absurd h (by omega))
      refine k_iinc (k := 0) (a := (v : Int)) (lv' := [(1, .int (zi ((v : Int) + 1))), (0, .ref b)]) hX dX8_init_254 hl rfl (by decide) rfl (fun ls hl => ?_)
      refine lv_goto (tgt := 220) hx hb dX8_init_257 (by decide) ?_
      exact ih (v + 1) (by omega) H _ ls hH hS hl
  refine k_iconst hX dX8_init_218 ?_
  refine lv_istore_n (lv' := [(1, .int (zi 0)), (0, .ref b)]) hx hb dX8_init_219 rfl hl (by decide) rfl (fun ls hl => ?_)
  exact L1 6 0 (by omega) H _ ls hH hS hl
theorem mrow_at {Dg : va_G} {a n : Nat} {cK : ClassId} {H : Heap} (q : va_at Dg vwCl (a, .inl (cK, n, .inl (fun j => zi (mrow n (j : Int))))) H) : va_at Dg vwCl (a, .inl (cK, n, .inl (fun _ => zi (-1)))) H :=
  veq.at (Or.inr ⟨cK, n, fun j => zi (mrow n (j : Int)), fun _ => zi (-1), rfl, rfl, fun j hj => congrArg zi (show mrow n (j : Int) = -1 from if_pos (by omega))⟩) q
theorem wp_M {Dg : va_G} {cA : Nat → ClassId} {b : Nat} {H : Heap} (h : HS Dg b 27 (modF cA b 6 10) H) : WP Dg mcnt (adM b) (mE cA (adM b) σ0) H := by
  intro t i h0 h1
  obtain ⟨ht, rfl⟩ := mcnt_lt h0 h1
  have q := h.2 t ht
  show va_at Dg vwCl (b + t, mE cA (adM b) σ0 t 0) H
  match t, ht with
  | 0, _ => exact q
  | 1, _ => exact q
  | 2, _ => exact q
  | 3, _ => exact q
  | 4, _ => exact q
  | 5, _ => exact q
  | 6, _ => exact q
  | 7, _ => exact q
  | 8, _ => exact q
  | 9, _ => exact q
  | 10, _ => exact q
  | 11, _ => exact q
  | 12, _ => exact q
  | 13, _ => exact mrow_at q
  | 14, _ => exact q
  | 15, _ => exact q
  | 16, _ => exact mrow_at q
  | 17, _ => exact q
  | 18, _ => exact mrow_at q
  | 19, _ => exact q
  | 20, _ => exact q
  | 21, _ => exact mrow_at q
  | 22, _ => exact q
  | 23, _ => exact q
  | 24, _ => exact q
  | 25, _ => exact mrow_at q
  | 26, _ => exact q
end M15B
