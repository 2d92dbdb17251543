section M15A
set_option maxHeartbeats 4000000 in
set_option maxRecDepth 100000 in
theorem c_X7 {l : Launch} {Dg : va_G} {cA : Nat → ClassId} (b : Nat) : GN l yX7_init wsX7_init ({ frames := 3, cells := 195, slots := 4692, locals := 53 } : Room) Dg cA b 8 [.null, .null, .null, .null, .null, .int (zi 0), .int (zi 0), .int (zi 0), .long (zl 0)] 196 (PF cA b 8 6 6 6 10) 195 4692 := by
  refine n_ent (cc := cX7_init) (maxL := 2) (by decide) rfl rfl (by decide) ?_
  intro pgm env s₀ m₀ bel mth cod hC hH hS ls hl
  have hx := hC.1
  have hb := hC.2.1
  have hts := hC.2.2.2.1
  have hX := cx0 hC
  have hin_X0 : ∀ w ∈ wsX00, w ∈ wsX7_init := by decide +kernel
  have hin_X1 : ∀ w ∈ wsX10, w ∈ wsX7_init := by decide +kernel
  have hin_X3 : ∀ w ∈ wsX30, w ∈ wsX7_init := by decide +kernel
  have hin_X4 : ∀ w ∈ wsX40, w ∈ wsX7_init := by decide +kernel
  have hin_X5 : ∀ w ∈ wsX50, w ∈ wsX7_init := by decide +kernel
  have hin_X6 : ∀ w ∈ wsX60, w ∈ wsX7_init := by decide +kernel
  have hin_X7 : ∀ w ∈ wsX70, w ∈ wsX7_init := by decide +kernel
  refine lv_aload_n hx hb dX7_init_0 rfl (lv_at hl 0 rfl) ?_
  refine h_obj hC hl.1 (by decide +kernel : Cond.methodLink RX7 1 objectInit ∈ wsX7_init) (by decide +kernel) (by decide +kernel) dX7_init_1 ⟨Nat.le_of_ble_eq_true rfl, Nat.le_of_ble_eq_true rfl⟩ ?_
  refine lv_aload_n hx hb dX7_init_4 rfl (lv_at hl 0 rfl) ?_
  refine k_bipush hX dX7_init_5 (by decide) ?_
  refine h_anew (C := "KioskReel$Reel") 3 (M := 8) hC (hts (.classLink RX7 9 RX5) (by decide +kernel)) (by decide) rfl rfl (by decide) hH hS (Nat.le_of_ble_eq_true rfl) (Nat.le_of_ble_eq_true rfl) dX7_init_7 (fun H hH hS => ?_)
  refine h_put (fs := [.null, .null, .null, .null, .null, .int (zi 0), .int (zi 0), .int (zi 0), .long (zl 0)]) (T := TX7) (N := 9) (ci := 8) (v := .ref (b + 1)) hC hin_X7 tyX7 tyX7_ok nmX7 rfl 0 (by decide) (hts (.fieldLink RX7 11 "KioskReel" "reels" "[LKioskReel$Reel;") (by decide +kernel)) rfl (tyX7_ok 0 (by decide)) rfl rfl (Nat.le_of_ble_eq_true rfl) (Nat.le_of_ble_eq_true rfl) rfl hH hS dX7_init_10 (fun H locs hH hS => ?_)
  refine lv_aload_n hx hb dX7_init_13 rfl (lv_at hl 0 rfl) ?_
  refine k_bipush hX dX7_init_14 (by decide) ?_
  refine h_anew (C := "KioskReel$Kiosk") 4 (M := 6) hC (hts (.classLink RX7 15 RX1) (by decide +kernel)) (by decide) rfl rfl (by decide) hH hS (Nat.le_of_ble_eq_true rfl) (Nat.le_of_ble_eq_true rfl) dX7_init_16 (fun H hH hS => ?_)
  refine h_put (fs := [.ref (b + 1), .null, .null, .null, .null, .int (zi 0), .int (zi 0), .int (zi 0), .long (zl 0)]) (T := TX7) (N := 9) (ci := 8) (v := .ref (b + 2)) hC hin_X7 tyX7 tyX7_ok nmX7 rfl 1 (by decide) (hts (.fieldLink RX7 17 "KioskReel" "kiosks" "[LKioskReel$Kiosk;") (by decide +kernel)) rfl (tyX7_ok 1 (by decide)) rfl rfl (Nat.le_of_ble_eq_true rfl) (Nat.le_of_ble_eq_true rfl) rfl hH hS dX7_init_19 (fun H locs hH hS => ?_)
  refine lv_aload_n hx hb dX7_init_22 rfl (lv_at hl 0 rfl) ?_
  refine k_bipush hX dX7_init_23 (by decide) ?_
  refine h_anew (C := "KioskReel$Player") 5 (M := 6) hC (hts (.classLink RX7 21 RX3) (by decide +kernel)) (by decide) rfl rfl (by decide) hH hS (Nat.le_of_ble_eq_true rfl) (Nat.le_of_ble_eq_true rfl) dX7_init_25 (fun H hH hS => ?_)
  refine h_put (fs := [.ref (b + 1), .ref (b + 2), .null, .null, .null, .int (zi 0), .int (zi 0), .int (zi 0), .long (zl 0)]) (T := TX7) (N := 9) (ci := 8) (v := .ref (b + 3)) hC hin_X7 tyX7 tyX7_ok nmX7 rfl 2 (by decide) (hts (.fieldLink RX7 23 "KioskReel" "players" "[LKioskReel$Player;") (by decide +kernel)) rfl (tyX7_ok 2 (by decide)) rfl rfl (Nat.le_of_ble_eq_true rfl) (Nat.le_of_ble_eq_true rfl) rfl hH hS dX7_init_28 (fun H locs hH hS => ?_)
  refine lv_aload_n hx hb dX7_init_31 rfl (lv_at hl 0 rfl) ?_
  refine k_bipush hX dX7_init_32 (by decide) ?_
  refine h_anew (C := "KioskReel$Device") 6 (M := 6) hC (hts (.classLink RX7 27 RX0) (by decide +kernel)) (by decide) rfl rfl (by decide) hH hS (Nat.le_of_ble_eq_true rfl) (Nat.le_of_ble_eq_true rfl) dX7_init_34 (fun H hH hS => ?_)
  refine h_put (fs := [.ref (b + 1), .ref (b + 2), .ref (b + 3), .null, .null, .int (zi 0), .int (zi 0), .int (zi 0), .long (zl 0)]) (T := TX7) (N := 9) (ci := 8) (v := .ref (b + 4)) hC hin_X7 tyX7 tyX7_ok nmX7 rfl 3 (by decide) (hts (.fieldLink RX7 29 "KioskReel" "devices" "[LKioskReel$Device;") (by decide +kernel)) rfl (tyX7_ok 3 (by decide)) rfl rfl (Nat.le_of_ble_eq_true rfl) (Nat.le_of_ble_eq_true rfl) rfl hH hS dX7_init_37 (fun H locs hH hS => ?_)
  refine lv_aload_n hx hb dX7_init_40 rfl (lv_at hl 0 rfl) ?_
  refine k_bipush hX dX7_init_41 (by decide) ?_
  refine h_anew (C := "KioskReel$Visitor") 7 (M := 10) hC (hts (.classLink RX7 33 RX6) (by decide +kernel)) (by decide) rfl rfl (by decide) hH hS (Nat.le_of_ble_eq_true rfl) (Nat.le_of_ble_eq_true rfl) dX7_init_43 (fun H hH hS => ?_)
  refine h_put (fs := [.ref (b + 1), .ref (b + 2), .ref (b + 3), .ref (b + 4), .null, .int (zi 0), .int (zi 0), .int (zi 0), .long (zl 0)]) (T := TX7) (N := 9) (ci := 8) (v := .ref (b + 5)) hC hin_X7 tyX7 tyX7_ok nmX7 rfl 4 (by decide) (hts (.fieldLink RX7 35 "KioskReel" "visitors" "[LKioskReel$Visitor;") (by decide +kernel)) rfl (tyX7_ok 4 (by decide)) rfl rfl (Nat.le_of_ble_eq_true rfl) (Nat.le_of_ble_eq_true rfl) rfl hH hS dX7_init_46 (fun H locs hH hS => ?_)
  have hH := hH.conv (g := PF cA b 0 0 0 0 0) (fun k hk => match k, hk with | 0, _ => rfl | 1, _ => by rw [show PF cA b 0 0 0 0 0 1 = .inl (cA 3, 8, .inr (.inr (.inr (.inr (rg (fun j => b + (6 + 3 * j)) 0))))) from rfl, ← rg_0]; rfl | 2, _ => by rw [show PF cA b 0 0 0 0 0 2 = .inl (cA 4, 6, .inr (.inr (.inr (.inr (rg (fun j => b + (30 + 18 * j)) 0))))) from rfl, ← rg_0]; rfl | 3, _ => by rw [show PF cA b 0 0 0 0 0 3 = .inl (cA 5, 6, .inr (.inr (.inr (.inr (rg (fun j => b + (33 + 18 * j)) 0))))) from rfl, ← rg_0]; rfl | 4, _ => by rw [show PF cA b 0 0 0 0 0 4 = .inl (cA 6, 6, .inr (.inr (.inr (.inr (rg (fun j => b + (138 + 3 * j)) 0))))) from rfl, ← rg_0]; rfl | 5, _ => by rw [show PF cA b 0 0 0 0 0 5 = .inl (cA 7, 10, .inr (.inr (.inr (.inr (rg (fun j => b + (156 + 4 * j)) 0))))) from rfl, ← rg_0]; rfl | k + 6, h => absurd h (by omega))
  have L4 : ∀ (k9 v : Nat), v + k9 = 10 → ∀ (H : Heap) (locs : List Loc) (ls : Array Slot), HS Dg b (156 + 4 * v) (PF cA b 8 6 6 6 v) H → va_S (NA b) s₀.heap H locs → lv_has ls 2 [(1, .int (zi (v : Int))), (0, .ref b)] → W pgm l env (headSpec wsX7_init ({ frames := 3, cells := 195, slots := 4692, locals := 53 } : Room)).room s₀ m₀ [Value.ref b].toArray bel mth cod H locs (155 + 4 * v) (1652 + 304 * v) (MQ bel (va_Qv (fun _ : Unit => True) (fun (_ : Unit) (t : State) => HS Dg b 196 (PF cA b 8 6 6 6 10) t.heap) (NA b)) [Value.ref b].toArray s₀ 195 4692 (NA b)) (F0 m₀ 145 ls []) := by
    intro k9
    induction k9 with
    | zero =>
      intro v hv H locs ls hH hS hl
      have hv : v = 10 := by omega
      subst hv
      refine lv_iload_n hx hb dX7_init_145 rfl (lv_at hl 0 rfl) ?_
      refine k_bipush hX dX7_init_146 (by decide) ?_
      refine k_icmp_ge (tgt := 170) hX dX7_init_148 (by decide) ⟨⟨by decide, by decide⟩, ⟨by decide, by decide⟩⟩ (fun _ => ?_) (fun z => absurd z (by decide))
      exact h_ret hC hH hS dX7_init_170
    | succ k9 ih =>
      intro v hv H locs ls hH hS hl
      have hv9 : v < 10 := by omega
      refine lv_iload_n hx hb dX7_init_145 rfl (lv_at hl 0 rfl) ?_
      refine k_bipush hX dX7_init_146 (by decide) ?_
      refine k_icmp_ge (tgt := 170) hX dX7_init_148 (by decide) ⟨⟨by omega, by omega⟩, ⟨by decide, by decide⟩⟩ (fun z => absurd z (by omega)) (fun _ => ?_)
      refine lv_aload_n hx hb dX7_init_151 rfl (lv_at hl 1 rfl) ?_
      refine h_get (fs := krO b) (T := TX7) (N := 9) (ci := 8) (v := .ref (b + 5)) hC hin_X7 rfl 4 (by decide) (hts (.fieldLink RX7 35 "KioskReel" "visitors" "[LKioskReel$Visitor;") (by decide +kernel)) rfl rfl (by omega) rfl hH dX7_init_152 ?_
      refine lv_iload_n hx hb dX7_init_155 rfl (lv_at hl 0 rfl) ?_
      refine h_new (T := TX6) (N := 4) (ci := 7) hC hin_X6 tyX6 tyX6_ok (hts (.classLink RX7 33 RX6) (by decide +kernel)) (hts (.instantiable RX6 4) (by decide +kernel)) (hts (.initialized RX6) (by decide +kernel)) rfl [.null, .null, .null, .int (zi 0)] (by decide) hH hS (by show 155 + 4 * v + 1 ≤ 195; omega) (by show 1652 + 304 * v + 4 ≤ 4692; omega) dX7_init_156 (fun H hH hS => ?_)
      refine lv_dup hx hb dX7_init_159 rfl ?_
      refine h_ctorN (host := "KioskReel") (n0 := 156 + 4 * v) (ci2 := 7) (fs2 := [.null, .null, .null, .int (zi 0)]) (rest := [.ref (b + (156 + 4 * v)), .int (zi (v : Int)), .ref (b + 5)]) hC hl.1 rfl (fu_eq _ _ _) (c_X6 (b + (156 + 4 * v))) gX7_init_X6_init_n43 rfl rfl rfl (by decide +kernel) (hts (.initialized RX6) (by decide +kernel)) (hts (.instanceMethod yX6_init) (by decide +kernel)) rfl (by decide +kernel) ⟨Nat.le_of_ble_eq_true rfl, Nat.le_of_ble_eq_true rfl⟩ hH hS ⟨by show 155 + 4 * v + 4 ≤ 195; omega, by show 1652 + 304 * v + 304 ≤ 4692; omega⟩ (Nat.le_of_ble_eq_true rfl) dX7_init_160 (fun H locs hH hS => ?_)
      refine h_aast (C := RX6) (T := TX6) (N := 4) (ci := 7) (vs := [.ref (b + (156 + 4 * v) + 1), .ref (b + (156 + 4 * v) + 2), .ref (b + (156 + 4 * v) + 3), .int (zi (-1))]) (g := rg (fun j => b + (156 + 4 * j)) v) (M := 10) (j := 5) (v := 156 + 4 * v) (x := (v : Int)) 7 hC (by omega) ((fj_lo (by omega)).trans ((fu_ne (by omega)).trans rfl)) rfl (by omega) ((fj_at _ _ _).trans rfl) rfl (by omega) (by decide) hH hS dX7_init_163 (fun H locs hH hS => ?_)
      have hH := hH.conv (g := PF cA b 8 6 6 6 (v + 1)) (step_conv (P' := PF cA b 8 6 6 6 (v + 1)) (fun q h hne => match q, h, hne with | 0, _, hne => rfl | 1, _, hne => rfl | 2, _, hne => rfl | 3, _, hne => rfl | 4, _, hne => rfl | 5, _, hne => absurd rfl hne | q + 6, _, _ => rfl) (by rw [show ((v : Int)).toNat = v from rfl, rg_up (fun j => b + (156 + 4 * j)) v]; rfl) (fun q hq => (KF_vis (show v < 10 by omega) q hq).trans (PF_hi (by omega)).symm))
      have hH : HS Dg b (156 + 4 * (v + 1)) (PF cA b 8 6 6 6 (v + 1)) H := by rw [show 156 + 4 * (v + 1) = 156 + 4 * v + 4 by omega]; exact hH
      refine k_iinc (k := 0) (a := (v : Int)) (lv' := [(1, .int (zi ((v : Int) + 1))), (0, .ref b)]) hX dX7_init_164 hl rfl (by decide) rfl (fun ls hl => ?_)
      refine lv_goto (tgt := 145) hx hb dX7_init_167 (by decide) ?_
      refine W.widen (k := 155 + 4 * (v + 1)) (n := 1652 + 304 * (v + 1)) (by omega) (by omega) ?_
      exact ih (v + 1) (by omega) H _ ls hH hS hl
  have L3 : ∀ (k9 v : Nat), v + k9 = 6 → ∀ (H : Heap) (locs : List Loc) (ls : Array Slot), HS Dg b (138 + 3 * v) (PF cA b 8 6 6 v 0) H → va_S (NA b) s₀.heap H locs → lv_has ls 2 [(1, .int (zi (v : Int))), (0, .ref b)] → W pgm l env (headSpec wsX7_init ({ frames := 3, cells := 195, slots := 4692, locals := 53 } : Room)).room s₀ m₀ [Value.ref b].toArray bel mth cod H locs (137 + 3 * v) (1592 + 10 * v) (MQ bel (va_Qv (fun _ : Unit => True) (fun (_ : Unit) (t : State) => HS Dg b 196 (PF cA b 8 6 6 6 10) t.heap) (NA b)) [Value.ref b].toArray s₀ 195 4692 (NA b)) (F0 m₀ 118 ls []) := by
    intro k9
    induction k9 with
    | zero =>
      intro v hv H locs ls hH hS hl
      have hv : v = 6 := by omega
      subst hv
      refine lv_iload_n hx hb dX7_init_118 rfl (lv_at hl 0 rfl) ?_
      refine k_bipush hX dX7_init_119 (by decide) ?_
      refine k_icmp_ge (tgt := 143) hX dX7_init_121 (by decide) ⟨⟨by decide, by decide⟩, ⟨by decide, by decide⟩⟩ (fun _ => ?_) (fun z => absurd z (by decide))
      refine k_iconst hX dX7_init_143 ?_
      refine lv_istore_n (lv' := [(1, .int (zi 0)), (0, .ref b)]) hx hb dX7_init_144 rfl hl (by decide) rfl (fun ls hl => ?_)
      exact L4 10 0 (by omega) H locs ls hH hS hl
    | succ k9 ih =>
      intro v hv H locs ls hH hS hl
      have hv9 : v < 6 := by omega
      refine lv_iload_n hx hb dX7_init_118 rfl (lv_at hl 0 rfl) ?_
      refine k_bipush hX dX7_init_119 (by decide) ?_
      refine k_icmp_ge (tgt := 143) hX dX7_init_121 (by decide) ⟨⟨by omega, by omega⟩, ⟨by decide, by decide⟩⟩ (fun z => absurd z (by omega)) (fun _ => ?_)
      refine lv_aload_n hx hb dX7_init_124 rfl (lv_at hl 1 rfl) ?_
      refine h_get (fs := krO b) (T := TX7) (N := 9) (ci := 8) (v := .ref (b + 4)) hC hin_X7 rfl 3 (by decide) (hts (.fieldLink RX7 29 "KioskReel" "devices" "[LKioskReel$Device;") (by decide +kernel)) rfl rfl (by omega) rfl hH dX7_init_125 ?_
      refine lv_iload_n hx hb dX7_init_128 rfl (lv_at hl 0 rfl) ?_
      refine h_new (T := TX0) (N := 2) (ci := 2) hC hin_X0 tyX0 tyX0_ok (hts (.classLink RX7 27 RX0) (by decide +kernel)) (hts (.instantiable RX0 2) (by decide +kernel)) (hts (.initialized RX0) (by decide +kernel)) rfl [.null, .int (zi 0)] (by decide) hH hS (by show 137 + 3 * v + 1 ≤ 195; omega) (by show 1592 + 10 * v + 2 ≤ 4692; omega) dX7_init_129 (fun H hH hS => ?_)
      refine lv_dup hx hb dX7_init_132 rfl ?_
      refine h_ctorN (host := "KioskReel") (n0 := 138 + 3 * v) (ci2 := 2) (fs2 := [.null, .int (zi 0)]) (rest := [.ref (b + (138 + 3 * v)), .int (zi (v : Int)), .ref (b + 4)]) hC hl.1 rfl (fu_eq _ _ _) (c_X0 (b + (138 + 3 * v))) gX7_init_X0_init_n42 rfl rfl rfl (by decide +kernel) (hts (.initialized RX0) (by decide +kernel)) (hts (.instanceMethod yX0_init) (by decide +kernel)) rfl (by decide +kernel) ⟨Nat.le_of_ble_eq_true rfl, Nat.le_of_ble_eq_true rfl⟩ hH hS ⟨by show 137 + 3 * v + 3 ≤ 195; omega, by show 1592 + 10 * v + 10 ≤ 4692; omega⟩ (Nat.le_of_ble_eq_true rfl) dX7_init_133 (fun H locs hH hS => ?_)
      refine h_aast (C := RX0) (T := TX0) (N := 2) (ci := 2) (vs := [.ref (b + (138 + 3 * v) + 1), .int (zi (-1))]) (g := rg (fun j => b + (138 + 3 * j)) v) (M := 6) (j := 4) (v := 138 + 3 * v) (x := (v : Int)) 6 hC (by omega) ((fj_lo (by omega)).trans ((fu_ne (by omega)).trans rfl)) rfl (by omega) ((fj_at _ _ _).trans rfl) rfl (by omega) (by decide) hH hS dX7_init_136 (fun H locs hH hS => ?_)
      have hH := hH.conv (g := PF cA b 8 6 6 (v + 1) 0) (step_conv (P' := PF cA b 8 6 6 (v + 1) 0) (fun q h hne => match q, h, hne with | 0, _, hne => rfl | 1, _, hne => rfl | 2, _, hne => rfl | 3, _, hne => rfl | 4, _, hne => absurd rfl hne | 5, _, hne => rfl | q + 6, _, _ => rfl) (by rw [show ((v : Int)).toNat = v from rfl, rg_up (fun j => b + (138 + 3 * j)) v]; rfl) (fun q hq => (KF_dev (show v < 6 by omega) q hq).trans (PF_hi (by omega)).symm))
      have hH : HS Dg b (138 + 3 * (v + 1)) (PF cA b 8 6 6 (v + 1) 0) H := by rw [show 138 + 3 * (v + 1) = 138 + 3 * v + 3 by omega]; exact hH
      refine k_iinc (k := 0) (a := (v : Int)) (lv' := [(1, .int (zi ((v : Int) + 1))), (0, .ref b)]) hX dX7_init_137 hl rfl (by decide) rfl (fun ls hl => ?_)
      refine lv_goto (tgt := 118) hx hb dX7_init_140 (by decide) ?_
      refine W.widen (k := 137 + 3 * (v + 1)) (n := 1592 + 10 * (v + 1)) (by omega) (by omega) ?_
      exact ih (v + 1) (by omega) H _ ls hH hS hl
  have L2 : ∀ (k9 v : Nat), v + k9 = 6 → ∀ (H : Heap) (locs : List Loc) (ls : Array Slot), HS Dg b (30 + 18 * v) (PF cA b 8 v v 0 0) H → va_S (NA b) s₀.heap H locs → lv_has ls 2 [(1, .int (zi (v : Int))), (0, .ref b)] → W pgm l env (headSpec wsX7_init ({ frames := 3, cells := 195, slots := 4692, locals := 53 } : Room)).room s₀ m₀ [Value.ref b].toArray bel mth cod H locs (29 + 18 * v) (380 + 202 * v) (MQ bel (va_Qv (fun _ : Unit => True) (fun (_ : Unit) (t : State) => HS Dg b 196 (PF cA b 8 6 6 6 10) t.heap) (NA b)) [Value.ref b].toArray s₀ 195 4692 (NA b)) (F0 m₀ 78 ls []) := by
    intro k9
    induction k9 with
    | zero =>
      intro v hv H locs ls hH hS hl
      have hv : v = 6 := by omega
      subst hv
      refine lv_iload_n hx hb dX7_init_78 rfl (lv_at hl 0 rfl) ?_
      refine k_bipush hX dX7_init_79 (by decide) ?_
      refine k_icmp_ge (tgt := 116) hX dX7_init_81 (by decide) ⟨⟨by decide, by decide⟩, ⟨by decide, by decide⟩⟩ (fun _ => ?_) (fun z => absurd z (by decide))
      refine k_iconst hX dX7_init_116 ?_
      refine lv_istore_n (lv' := [(1, .int (zi 0)), (0, .ref b)]) hx hb dX7_init_117 rfl hl (by decide) rfl (fun ls hl => ?_)
      exact L3 6 0 (by omega) H locs ls hH hS hl
    | succ k9 ih =>
      intro v hv H locs ls hH hS hl
      have hv9 : v < 6 := by omega
      refine lv_iload_n hx hb dX7_init_78 rfl (lv_at hl 0 rfl) ?_
      refine k_bipush hX dX7_init_79 (by decide) ?_
      refine k_icmp_ge (tgt := 116) hX dX7_init_81 (by decide) ⟨⟨by omega, by omega⟩, ⟨by decide, by decide⟩⟩ (fun z => absurd z (by omega)) (fun _ => ?_)
      refine lv_aload_n hx hb dX7_init_84 rfl (lv_at hl 1 rfl) ?_
      refine h_get (fs := krO b) (T := TX7) (N := 9) (ci := 8) (v := .ref (b + 2)) hC hin_X7 rfl 1 (by decide) (hts (.fieldLink RX7 17 "KioskReel" "kiosks" "[LKioskReel$Kiosk;") (by decide +kernel)) rfl rfl (by omega) rfl hH dX7_init_85 ?_
      refine lv_iload_n hx hb dX7_init_88 rfl (lv_at hl 0 rfl) ?_
      refine h_new (T := TX1) (N := 5) (ci := 3) hC hin_X1 tyX1 tyX1_ok (hts (.classLink RX7 15 RX1) (by decide +kernel)) (hts (.instantiable RX1 5) (by decide +kernel)) (hts (.initialized RX1) (by decide +kernel)) rfl [.null, .int (zi 0), .int (zi 0), .int (zi 0), .int (zi 0)] (by decide) hH hS (by show 29 + 18 * v + 1 ≤ 195; omega) (by show 380 + 202 * v + 5 ≤ 4692; omega) dX7_init_89 (fun H hH hS => ?_)
      refine lv_dup hx hb dX7_init_92 rfl ?_
      refine h_ctorN (host := "KioskReel") (n0 := 30 + 18 * v) (ci2 := 3) (fs2 := [.null, .int (zi 0), .int (zi 0), .int (zi 0), .int (zi 0)]) (rest := [.ref (b + (30 + 18 * v)), .int (zi (v : Int)), .ref (b + 2)]) hC hl.1 rfl (fu_eq _ _ _) (c_X1 (b + (30 + 18 * v))) gX7_init_X1_init_n40 rfl rfl rfl (by decide +kernel) (hts (.initialized RX1) (by decide +kernel)) (hts (.instanceMethod yX1_init) (by decide +kernel)) rfl (by decide +kernel) ⟨Nat.le_of_ble_eq_true rfl, Nat.le_of_ble_eq_true rfl⟩ hH hS ⟨by show 29 + 18 * v + 3 ≤ 195; omega, by show 380 + 202 * v + 13 ≤ 4692; omega⟩ (Nat.le_of_ble_eq_true rfl) dX7_init_93 (fun H locs hH hS => ?_)
      refine h_aast (C := RX1) (T := TX1) (N := 5) (ci := 3) (vs := [.ref (b + (30 + 18 * v) + 1), .int (zi 0), .int (zi 0), .int (zi 0), .int (zi (-1))]) (g := rg (fun j => b + (30 + 18 * j)) v) (M := 6) (j := 2) (v := 30 + 18 * v) (x := (v : Int)) 4 hC (by omega) ((fj_lo (by omega)).trans ((fu_ne (by omega)).trans rfl)) rfl (by omega) ((fj_at _ _ _).trans rfl) rfl (by omega) (by decide) hH hS dX7_init_96 (fun H locs hH hS => ?_)
      have hH := hH.conv (g := PF cA b 8 (v + 1) v 0 0) (step_conv (P' := PF cA b 8 (v + 1) v 0 0) (fun q h hne => match q, h, hne with | 0, _, hne => rfl | 1, _, hne => rfl | 2, _, hne => absurd rfl hne | 3, _, hne => rfl | 4, _, hne => rfl | 5, _, hne => rfl | q + 6, _, _ => rfl) (by rw [show ((v : Int)).toNat = v from rfl, rg_up (fun j => b + (30 + 18 * j)) v]; rfl) (fun q hq => (KF_kio (show v < 6 by omega) q hq).trans (PF_hi (by omega)).symm))
      have hH : HS Dg b (33 + 18 * v) (PF cA b 8 (v + 1) v 0 0) H := by rw [show 33 + 18 * v = 30 + 18 * v + 3 by omega]; exact hH
      refine lv_aload_n hx hb dX7_init_97 rfl (lv_at hl 1 rfl) ?_
      refine h_get (fs := krO b) (T := TX7) (N := 9) (ci := 8) (v := .ref (b + 3)) hC hin_X7 rfl 2 (by decide) (hts (.fieldLink RX7 23 "KioskReel" "players" "[LKioskReel$Player;") (by decide +kernel)) rfl rfl (by omega) rfl hH dX7_init_98 ?_
      refine lv_iload_n hx hb dX7_init_101 rfl (lv_at hl 0 rfl) ?_
      refine h_new (T := TX3) (N := 9) (ci := 4) hC hin_X3 tyX3 tyX3_ok (hts (.classLink RX7 21 RX3) (by decide +kernel)) (hts (.instantiable RX3 9) (by decide +kernel)) (hts (.initialized RX3) (by decide +kernel)) rfl [.null, .null, .int (zi 0), .int (zi 0), .int (zi 0), .int (zi 0), .int (zi 0), .int (zi 0), .int (zi 0)] (by decide) hH hS (by show 29 + 18 * v + 4 ≤ 195; omega) (by show 380 + 202 * v + 22 ≤ 4692; omega) dX7_init_102 (fun H hH hS => ?_)
      refine lv_dup hx hb dX7_init_105 rfl ?_
      refine h_ctor (n0 := 33 + 18 * v) (ci2 := 4) (fs2 := [.null, .null, .int (zi 0), .int (zi 0), .int (zi 0), .int (zi 0), .int (zi 0), .int (zi 0), .int (zi 0)]) (rest := [.ref (b + (33 + 18 * v)), .int (zi (v : Int)), .ref (b + 3)]) hC hl.1 rfl (fu_eq _ _ _) (c_X3 (b + (33 + 18 * v))) (cwI 0 hts gX7_init_X3_init rfl rfl rfl (hts (.initialized RX3) (by decide +kernel)) (hts (.methodLink RX7 41 yX3_init) (by decide +kernel)) (hts (.instanceMethod yX3_init) (by decide +kernel)) rfl (by decide +kernel) ⟨Nat.le_of_ble_eq_true rfl, Nat.le_of_ble_eq_true rfl⟩) hH hS ⟨by show 29 + 18 * v + 18 ≤ 195; omega, by show 380 + 202 * v + 202 ≤ 4692; omega⟩ (Nat.le_of_ble_eq_true rfl) dX7_init_106 (fun H locs hH hS => ?_)
      refine h_aast (C := RX3) (T := TX3) (N := 9) (ci := 4) (vs := [.ref (b + (33 + 18 * v) + 1), .ref (b + (33 + 18 * v) + 2), .int (zi 1), .int (zi 0), .int (zi 0), .int (zi (-1)), .int (zi 0), .int (zi 0), .int (zi (-1))]) (g := rg (fun j => b + (33 + 18 * j)) v) (M := 6) (j := 3) (v := 33 + 18 * v) (x := (v : Int)) 5 hC (by omega) ((fj_lo (by omega)).trans ((fu_ne (by omega)).trans rfl)) rfl (by omega) ((fj_at _ _ _).trans rfl) rfl (by omega) (by decide) hH hS dX7_init_109 (fun H locs hH hS => ?_)
      have hH := hH.conv (g := PF cA b 8 (v + 1) (v + 1) 0 0) (step_conv (P' := PF cA b 8 (v + 1) (v + 1) 0 0) (fun q h hne => match q, h, hne with | 0, _, hne => rfl | 1, _, hne => rfl | 2, _, hne => rfl | 3, _, hne => absurd rfl hne | 4, _, hne => rfl | 5, _, hne => rfl | q + 6, _, _ => rfl) (by rw [show ((v : Int)).toNat = v from rfl, rg_up (fun j => b + (33 + 18 * j)) v]; rfl) (fun q hq => (KF_pla (show v < 6 by omega) q hq).trans (PF_hi (by omega)).symm))
      have hH : HS Dg b (30 + 18 * (v + 1)) (PF cA b 8 (v + 1) (v + 1) 0 0) H := by rw [show 30 + 18 * (v + 1) = 33 + 18 * v + 15 by omega]; exact hH
      refine k_iinc (k := 0) (a := (v : Int)) (lv' := [(1, .int (zi ((v : Int) + 1))), (0, .ref b)]) hX dX7_init_110 hl rfl (by decide) rfl (fun ls hl => ?_)
      refine lv_goto (tgt := 78) hx hb dX7_init_113 (by decide) ?_
      refine W.widen (k := 29 + 18 * (v + 1)) (n := 380 + 202 * (v + 1)) (by omega) (by omega) ?_
      exact ih (v + 1) (by omega) H _ ls hH hS hl
  have L1 : ∀ (k9 v : Nat), v + k9 = 8 → ∀ (H : Heap) (locs : List Loc) (ls : Array Slot), HS Dg b (6 + 3 * v) (PF cA b v 0 0 0 0) H → va_S (NA b) s₀.heap H locs → lv_has ls 2 [(1, .int (zi (v : Int))), (0, .ref b)] → W pgm l env (headSpec wsX7_init ({ frames := 3, cells := 195, slots := 4692, locals := 53 } : Room)).room s₀ m₀ [Value.ref b].toArray bel mth cod H locs (5 + 3 * v) (36 + 43 * v) (MQ bel (va_Qv (fun _ : Unit => True) (fun (_ : Unit) (t : State) => HS Dg b 196 (PF cA b 8 6 6 6 10) t.heap) (NA b)) [Value.ref b].toArray s₀ 195 4692 (NA b)) (F0 m₀ 51 ls []) := by
    intro k9
    induction k9 with
    | zero =>
      intro v hv H locs ls hH hS hl
      have hv : v = 8 := by omega
      subst hv
      refine lv_iload_n hx hb dX7_init_51 rfl (lv_at hl 0 rfl) ?_
      refine k_bipush hX dX7_init_52 (by decide) ?_
      refine k_icmp_ge (tgt := 76) hX dX7_init_54 (by decide) ⟨⟨by decide, by decide⟩, ⟨by decide, by decide⟩⟩ (fun _ => ?_) (fun z => absurd z (by decide))
      refine k_iconst hX dX7_init_76 ?_
      refine lv_istore_n (lv' := [(1, .int (zi 0)), (0, .ref b)]) hx hb dX7_init_77 rfl hl (by decide) rfl (fun ls hl => ?_)
      exact L2 6 0 (by omega) H locs ls hH hS hl
    | succ k9 ih =>
      intro v hv H locs ls hH hS hl
      have hv9 : v < 8 := by omega
      refine lv_iload_n hx hb dX7_init_51 rfl (lv_at hl 0 rfl) ?_
      refine k_bipush hX dX7_init_52 (by decide) ?_
      refine k_icmp_ge (tgt := 76) hX dX7_init_54 (by decide) ⟨⟨by omega, by omega⟩, ⟨by decide, by decide⟩⟩ (fun z => absurd z (by omega)) (fun _ => ?_)
      refine lv_aload_n hx hb dX7_init_57 rfl (lv_at hl 1 rfl) ?_
      refine h_get (fs := krO b) (T := TX7) (N := 9) (ci := 8) (v := .ref (b + 1)) hC hin_X7 rfl 0 (by decide) (hts (.fieldLink RX7 11 "KioskReel" "reels" "[LKioskReel$Reel;") (by decide +kernel)) rfl rfl (by omega) rfl hH dX7_init_58 ?_
      refine lv_iload_n hx hb dX7_init_61 rfl (lv_at hl 0 rfl) ?_
      refine h_new (T := TX5) (N := 3) (ci := 6) hC hin_X5 tyX5 tyX5_ok (hts (.classLink RX7 9 RX5) (by decide +kernel)) (hts (.instantiable RX5 3) (by decide +kernel)) (hts (.initialized RX5) (by decide +kernel)) rfl [.null, .null, .int (zi 0)] (by decide) hH hS (by show 5 + 3 * v + 1 ≤ 195; omega) (by show 36 + 43 * v + 3 ≤ 4692; omega) dX7_init_62 (fun H hH hS => ?_)
      refine lv_dup hx hb dX7_init_65 rfl ?_
      refine h_ctorN (host := "KioskReel") (n0 := 6 + 3 * v) (ci2 := 6) (fs2 := [.null, .null, .int (zi 0)]) (rest := [.ref (b + (6 + 3 * v)), .int (zi (v : Int)), .ref (b + 1)]) hC hl.1 rfl (fu_eq _ _ _) (c_X5 (b + (6 + 3 * v))) gX7_init_X5_init_n39 rfl rfl rfl (by decide +kernel) (hts (.initialized RX5) (by decide +kernel)) (hts (.instanceMethod yX5_init) (by decide +kernel)) rfl (by decide +kernel) ⟨Nat.le_of_ble_eq_true rfl, Nat.le_of_ble_eq_true rfl⟩ hH hS ⟨by show 5 + 3 * v + 3 ≤ 195; omega, by show 36 + 43 * v + 43 ≤ 4692; omega⟩ (Nat.le_of_ble_eq_true rfl) dX7_init_66 (fun H locs hH hS => ?_)
      refine h_aast (C := RX5) (T := TX5) (N := 3) (ci := 6) (vs := [.ref (b + (6 + 3 * v) + 1), .ref (b + (6 + 3 * v) + 2), .int (zi 0)]) (g := rg (fun j => b + (6 + 3 * j)) v) (M := 8) (j := 1) (v := 6 + 3 * v) (x := (v : Int)) 3 hC (by omega) ((fj_lo (by omega)).trans ((fu_ne (by omega)).trans rfl)) rfl (by omega) ((fj_at _ _ _).trans rfl) rfl (by omega) (by decide) hH hS dX7_init_69 (fun H locs hH hS => ?_)
      have hH := hH.conv (g := PF cA b (v + 1) 0 0 0 0) (step_conv (P' := PF cA b (v + 1) 0 0 0 0) (fun q h hne => match q, h, hne with | 0, _, hne => rfl | 1, _, hne => absurd rfl hne | 2, _, hne => rfl | 3, _, hne => rfl | 4, _, hne => rfl | 5, _, hne => rfl | q + 6, _, _ => rfl) (by rw [show ((v : Int)).toNat = v from rfl, rg_up (fun j => b + (6 + 3 * j)) v]; rfl) (fun q hq => by have e := KF_reel (cA := cA) (b := b) (show v < 32 by omega) q hq; rw [rb_lo hv9] at e; exact e.trans (PF_hi (by omega)).symm))
      have hH : HS Dg b (6 + 3 * (v + 1)) (PF cA b (v + 1) 0 0 0 0) H := by rw [show 6 + 3 * (v + 1) = 6 + 3 * v + 3 by omega]; exact hH
      refine k_iinc (k := 0) (a := (v : Int)) (lv' := [(1, .int (zi ((v : Int) + 1))), (0, .ref b)]) hX dX7_init_70 hl rfl (by decide) rfl (fun ls hl => ?_)
      refine lv_goto (tgt := 51) hx hb dX7_init_73 (by decide) ?_
      refine W.widen (k := 5 + 3 * (v + 1)) (n := 36 + 43 * (v + 1)) (by omega) (by omega) ?_
      exact ih (v + 1) (by omega) H _ ls hH hS hl
  refine k_iconst hX dX7_init_49 ?_
  refine lv_istore_n (lv' := [(1, .int (zi 0)), (0, .ref b)]) hx hb dX7_init_50 rfl hl (by decide) rfl (fun ls hl => ?_)
  exact L1 8 0 (by omega) H _ ls hH hS hl
end M15A
