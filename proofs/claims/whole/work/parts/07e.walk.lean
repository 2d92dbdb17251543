section M7C
set_option maxHeartbeats 1000000 in
set_option maxRecDepth 100000 in
theorem n_turn {l : Launch} {Dg : va_G} {cA : Nat → ClassId} {ad : Nat → Int → Nat} {oc : Nat → Nat} (hI : WI mcnt ad) {N M : Int} (σ : St) (p : Int) (hv : Inv N M σ) (hp : 0 ≤ p ∧ p < 6) (hs : σ 6 p 0 = 1) (h8 : 0 ≤ σ 8 p 0) (hN : N ≤ 1000000) : GV l yX8_turn wsX8_turn ({ frames := 3, cells := 0, slots := 0, locals := 72 } : Room) Dg cA mcnt ad oc (mE cA ad σ) [.ref (ad 0 0), .int (zi p)] (mE cA ad (fTurn σ p)) := by
  intro sz
  refine g_ent (cc := cX8_turn) (maxL := 6) (ret := none) (by decide) rfl hI (Nat.le_of_ble_eq_true rfl) ?_
  intro pgm env s₀ m₀ bel mth cod hX hW hS hsz ls hl
  subst hsz
  have hC := hX.1
  have hx := hC.1
  have hb := hC.2.1
  have hts := hC.2.2.2.1
  have hl : lv_has ls 6 [(0, .ref (ad 0 0)), (1, .int (zi p))] := hl
  have hin_X8 : ∀ w ∈ wsX80, w ∈ wsX8_turn := by decide +kernel
  have hl_19 := hts (.fieldLink RX8 19 "KioskReelModel" "pileMany" "[I") (by decide +kernel)
  have hl_28 := hts (.fieldLink RX8 28 "KioskReelModel" "pileList" "[I") (by decide +kernel)
  have hl_31 := hts (.fieldLink RX8 31 "KioskReelModel" "pileNext" "[I") (by decide +kernel)
  have hl_44 := hts (.fieldLink RX8 44 "KioskReelModel" "depth" "[I") (by decide +kernel)
  have hl_53 := hts (.fieldLink RX8 53 "KioskReelModel" "ticks" "[I") (by decide +kernel)
  have hl_56 := hts (.fieldLink RX8 56 "KioskReelModel" "wanted" "[I") (by decide +kernel)
  have hl_156 := hts (.fieldLink RX8 156 "KioskReelModel" "done" "J") (by decide +kernel)
  have hT := hv.T p hp.1 hp.2
  have hU := hv.U p hp.1 hp.2
  have hU2 := hU.2.2 hs
  have hD0 := (hv.D p hp.1 hp.2).1
  refine lv_aload_n hx hb dX8_turn_0 rfl (lv_at hl 0 rfl) ?_
  refine mg_ticks hC hW hin_X8 hl_53 dX8_turn_1 ?_
  refine lv_iload_n hx hb dX8_turn_4 rfl (lv_at hl 1 rfl) ?_
  refine ma_ticks hC hW (by omega) (v := σ 10 p 0) rfl dX8_turn_5 ?_
  refine k_if_le (tgt := 20) hC dX8_turn_6 (by decide) (by omega) (fun c1 => ?_) (fun c1 => ?_)
  · refine k_iconst hC dX8_turn_20 ?_
    refine lv_istore_n (lv' := [(2, .int (zi 0)), (0, .ref (ad 0 0)), (1, .int (zi p))]) hx hb dX8_turn_21 rfl hl (by decide) rfl (fun ls hl => ?_)
    refine lv_aload_n hx hb dX8_turn_22 rfl (lv_at hl 1 rfl) ?_
    refine mg_wanted hC hW hin_X8 hl_56 dX8_turn_23 ?_
    refine lv_iload_n hx hb dX8_turn_26 rfl (lv_at hl 2 rfl) ?_
    refine ma_wanted hC hW (by omega) (v := σ 25 p 0) rfl dX8_turn_27 ?_
    refine k_if_ge (tgt := 35) hC dX8_turn_28 (by decide) (by omega) (fun c2 => ?_) (fun c2 => ?_)
    · refine k_iconst hC dX8_turn_35 ?_
      refine lv_istore_n (lv' := [(3, .int (zi 0)), (2, .int (zi 0)), (0, .ref (ad 0 0)), (1, .int (zi p))]) hx hb dX8_turn_36 rfl hl (by decide) rfl (fun ls hl => ?_)
      refine lv_iload_n hx hb dX8_turn_37 rfl (lv_at hl 0 rfl) ?_
      refine k_if_eq (tgt := 151) hC dX8_turn_38 (by decide) (by omega) (fun c3 => ?_) (fun c3 => absurd c3 (by omega))
      have hW : WP Dg mcnt ad (mE cA ad (fTurn σ p)) _ := (by first | (rw [fTurn, if_neg (by omega), if_pos (by omega)]; exact hW) | (rw [fTurn_go (by omega) (by omega)]; exact sw hW (turnM_end i2 (by omega))))
      exact k_vret hX hW hS dX8_turn_151
    · refine k_iconst hC dX8_turn_31 ?_
      refine lv_goto (tgt := 36) hx hb dX8_turn_32 (by decide) ?_
      refine lv_istore_n (lv' := [(3, .int (zi 1)), (2, .int (zi 0)), (0, .ref (ad 0 0)), (1, .int (zi p))]) hx hb dX8_turn_36 rfl hl (by decide) rfl (fun ls hl => ?_)
      have loop_37 : ∀ (fuel : Nat) (τ : St) (n : Int) (g : Int), (8 - n) * 5 + τ 5 p 0 < (fuel : Int) → (0 ≤ n ∧ n ≤ 8) → (TurnM N M σ p τ n g) → (0 ≤ τ 5 p 0 ∧ τ 5 p 0 ≤ 4) → (g = 0 ∨ g = 1) → ∀ (H : Heap) (locs : List Loc), WP Dg mcnt ad (mE cA ad τ) H → va_S (WA mcnt ad s₀.heap.size) s₀.heap H locs → ∀ ls : Array Slot, lv_has ls 6 [(2, .int (zi n)), (3, .int (zi g)), (0, .ref (ad 0 0)), (1, .int (zi p))] → W pgm l env ({ frames := 3, cells := 0, slots := 0, locals := 72 } : Room) s₀ m₀ ([.ref (ad 0 0), .int (zi p)] : List Value).toArray bel mth cod H locs 0 0 (MQ bel (va_Qv (fun _ : Unit => True) (gB Dg mcnt ad (mE cA ad (fTurn σ p))) (WA mcnt ad s₀.heap.size)) ([.ref (ad 0 0), .int (zi p)] : List Value).toArray s₀ 0 0 (WA mcnt ad s₀.heap.size)) (F0 m₀ 37 ls []) := by
        intro fuel
        induction fuel with
        | zero => intro τ n g hn i1 i2 i3 i4; exact absurd hn (by omega)
        | succ fuel ih_37 =>
          intro τ n g hn i1 i2 i3 i4 H locs hW hS ls hl
          refine lv_iload_n hx hb dX8_turn_37 rfl (lv_at hl 1 rfl) ?_
          refine k_if_eq (tgt := 151) hC dX8_turn_38 (by decide) (by omega) (fun c4 => ?_) (fun c4 => ?_)
          · have hW : WP Dg mcnt ad (mE cA ad (fTurn σ p)) _ := (by first | (rw [fTurn, if_neg (by omega), if_pos (by omega)]; exact hW) | (rw [fTurn_go (by omega) (by omega)]; exact sw hW (turnM_end i2 (by omega))))
            exact k_vret hX hW hS dX8_turn_151
          · refine lv_iload_n hx hb dX8_turn_41 rfl (lv_at hl 0 rfl) ?_
            refine k_bipush hC dX8_turn_42 (by decide) ?_
            refine k_icmp_ge (tgt := 151) hC dX8_turn_44 (by decide) (by omega) (fun c5 => ?_) (fun c5 => ?_)
            · have hW : WP Dg mcnt ad (mE cA ad (fTurn σ p)) _ := (by first | (rw [fTurn, if_neg (by omega), if_pos (by omega)]; exact hW) | (rw [fTurn_go (by omega) (by omega)]; exact sw hW (turnM_end i2 (by omega))))
              exact k_vret hX hW hS dX8_turn_151
            · obtain ⟨j1, j2, j3⟩ := id i2
              obtain ⟨-, j4, j5, j6⟩ := j3.resolve_right (fun z => by have := z.1; omega)
              obtain ⟨d1, d2⟩ := j1.D p hp.1 hp.2
              have d3 := d2 j2
              have h4 := j1.H p (τ 5 p 0 - 1) (by omega) (by omega) (by omega) (by omega)
              have h3 := (j1.R (8 + 4 * p + (τ 5 p 0 - 1)) (by omega) (by omega)).1
              refine lv_aload_n hx hb dX8_turn_47 rfl (lv_at hl 2 rfl) ?_
              refine lv_iload_n hx hb dX8_turn_48 rfl (lv_at hl 3 rfl) ?_
              refine k_callI (As := [.int (zi p)]) (rest := []) hX hl.1 (n_top hI τ p hp (by omega) (by omega)) (cwV 1 hts gX8_turn_X8_top rfl rfl rfl (by decide +kernel) ⟨Nat.le_of_ble_eq_true rfl, Nat.le_of_ble_eq_true rfl⟩) (rc_M hC hW) hW hS ⟨Nat.zero_le _, Nat.zero_le _⟩ rfl rfl (Nat.le_of_ble_eq_true rfl) dX8_turn_49 (fun H locs hW hS _ _ => ?_)
              refine lv_istore (lv' := [(4, .int (zi (4 * p + (τ 5 p 0 - 1)))), (2, .int (zi n)), (3, .int (zi g)), (0, .ref (ad 0 0)), (1, .int (zi p))]) hx hb dX8_turn_52 hl (by decide) rfl (fun ls hl => ?_)
              refine lv_aload_n hx hb dX8_turn_54 rfl (lv_at hl 3 rfl) ?_
              refine mg_pileNext hC hW hin_X8 hl_31 dX8_turn_55 ?_
              refine lv_iload hx hb dX8_turn_58 (lv_at hl 0 rfl) ?_
              refine ma_pileNext hC hW p (τ 5 p 0 - 1) (by omega) (by omega) (by omega) (v := τ 4 p (τ 5 p 0 - 1)) rfl dX8_turn_60 ?_
              refine lv_aload_n hx hb dX8_turn_61 rfl (lv_at hl 3 rfl) ?_
              refine mg_pileMany hC hW hin_X8 hl_19 dX8_turn_62 ?_
              refine lv_iload hx hb dX8_turn_65 (lv_at hl 0 rfl) ?_
              refine ma_pileMany hC hW (by omega) (v := τ 3 (8 + 4 * p + (τ 5 p 0 - 1)) 0) (by rw [show (8 + (4 * p + (τ 5 p 0 - 1)) : Int) = 8 + 4 * p + (τ 5 p 0 - 1) by omega]) dX8_turn_67 ?_
              refine k_icmp_lt (tgt := 75) hC dX8_turn_68 (by decide) (by omega) (fun c6 => ?_) (fun c6 => ?_)
              · refine k_iconst hC dX8_turn_75 ?_
                refine lv_istore (lv' := [(5, .int (zi 0)), (4, .int (zi (4 * p + (τ 5 p 0 - 1)))), (2, .int (zi n)), (3, .int (zi g)), (0, .ref (ad 0 0)), (1, .int (zi p))]) hx hb dX8_turn_76 hl (by decide) rfl (fun ls hl => ?_)
                refine lv_iload hx hb dX8_turn_78 (lv_at hl 0 rfl) ?_
                refine k_if_eq (tgt := 106) hC dX8_turn_80 (by decide) (by omega) (fun c7 => ?_) (fun c7 => absurd c7 (by omega))
                refine k_iinc (a := n) (lv' := [(2, .int (zi (n + 1))), (5, .int (zi 0)), (4, .int (zi (4 * p + (τ 5 p 0 - 1)))), (3, .int (zi g)), (0, .ref (ad 0 0)), (1, .int (zi p))]) hC dX8_turn_106 hl (k := 2) rfl (by decide) rfl (fun ls hl => ?_)
                refine lv_aload_n hx hb dX8_turn_109 rfl (lv_at hl 4 rfl) ?_
                refine lv_dup hx hb dX8_turn_110 rfl ?_
                refine mg_done_f hC hW hin_X8 hl_156 (v := τ 29 0 0) rfl dX8_turn_111 ?_
                refine k_lconst (v := 1) hC dX8_turn_114 (by decide) ?_
                refine k_ladd hC dX8_turn_115 ?_
                refine mp_done_f hC hW hin_X8 hl_156 hS dX8_turn_116 (fun H locs hW hS => ?_)
                obtain ⟨σ1, hσ1⟩ : ∃ z, z = ups τ 29 0 0 ((τ 29 0 0) + 1) := ⟨_, rfl⟩
                rw [← hσ1] at hW
                have cst : ¬ (1 < τ 5 p 0 ∧ atEnd τ p) := by rintro ⟨z1, z2⟩; unfold atEnd at z2; omega
                obtain ⟨σ2, hσ2⟩ : ∃ z, z = fHead τ p := ⟨_, rfl⟩
                have hW : WP Dg mcnt ad (mE cA ad σ2) _ := (sw hW (by rw [hσ2, hσ1, fHead_stop (by rintro ⟨z1, z2⟩; unfold atEnd at z2; omega)]))
                refine lv_iload hx hb dX8_turn_119 (lv_at hl 1 rfl) ?_
                have hJ : Inv N M σ2 := by rw [hσ2]; exact Inv_fHead j1
                have qa : ∀ (t : Nat) (i j : Int), t ≠ 29 → σ2 t i j = τ t i j := fun t i j z => by rw [hσ2, fHead_stop cst, ups_t _ z]
                have q5 := qa 5 p 0 (by decide)
                have q6 := qa 6 p 0 (by decide)
                have q8 := qa 8 p 0 (by decide)
                have q11 := qa 11 p 0 (by decide)
                have q24 := qa 24 p 0 (by decide)
                have q4 := qa 4 p (τ 5 p 0 - 1) (by decide)
                have q3 := qa 3 (8 + 4 * p + (τ 5 p 0 - 1)) 0 (by decide)
                obtain ⟨l1, l2⟩ := hJ.L p hp.1 hp.2
                refine k_if_eq (tgt := 140) hC dX8_turn_121 (by decide) (by omega) (fun c8 => ?_) (fun c8 => absurd c8 (by omega))
                have hnt : ¬ atEnd σ2 p := by unfold atEnd; rw [q5, q3, q4]; omega
                refine lv_aload_n hx hb dX8_turn_140 rfl (lv_at hl 4 rfl) ?_
                refine lv_iload_n hx hb dX8_turn_141 rfl (lv_at hl 5 rfl) ?_
                refine lv_iload hx hb dX8_turn_142 (lv_at hl 2 rfl) ?_
                refine k_top0 (show (4 * p + (τ 5 p 0 - 1) : Int) = 4 * p + (σ2 5 p 0 - 1) from by omega) ?_
                refine k_callI (As := [.int (zi p), .int (zi (4 * p + (σ2 5 p 0 - 1)))]) (rest := []) hX hl.1 (n_does hI σ2 p hJ hp (by omega) (by omega) (by omega) hnt hN) (cwV 2 hts gX8_turn_X8_does rfl rfl rfl (by decide +kernel) ⟨Nat.le_of_ble_eq_true rfl, Nat.le_of_ble_eq_true rfl⟩) (rc_M hC hW) hW hS ⟨Nat.zero_le _, Nat.zero_le _⟩ rfl rfl (Nat.le_of_ble_eq_true rfl) dX8_turn_144 (fun H locs hW hS _ _ => ?_)
                obtain ⟨σ3, hσ3⟩ : ∃ z, z = fDo σ2 p := ⟨_, rfl⟩
                rw [← hσ3] at hW
                refine lv_istore_n (lv' := [(3, .int (zi (if oDo σ2 p = 0 then 1 else 0))), (2, .int (zi (n + 1))), (5, .int (zi 0)), (4, .int (zi (4 * p + (τ 5 p 0 - 1)))), (0, .ref (ad 0 0)), (1, .int (zi p))]) hx hb dX8_turn_147 rfl hl (by decide) rfl (fun ls hl => ?_)
                refine lv_goto (tgt := 37) hx hb dX8_turn_148 (by decide) ?_
                have hl := Eq.mp (congrArg (fun z : Int => lv_has ls 6 [(3, .int (zi (if oDo σ2 p = 0 then 1 else 0))), (2, .int (zi z)), (5, .int (zi 0)), (4, .int (zi (4 * p + (τ 5 p 0 - 1)))), (0, .ref (ad 0 0)), (1, .int (zi p))]) (show (n + 1 : Int) = (n + 1) by omega)) hl
                have hb := ((Inv_fLine j1 hp j2 j5).D p hp.1 hp.2).1
                exact ih_37 (fLine τ p) (n + 1) (if oDo σ2 p = 0 then 1 else 0) (by omega) (by omega) (by have z := turnM_line i2 (by omega) (by omega) hp; unfold oLine at z; rw [← hσ2] at z; exact z) hb (by split <;> omega) _ _ (by unfold fLine; exact sw hW (by rw [hσ3, hσ2])) hS _ (lv_sub hl [1, 0, 4, 5] rfl)
              · refine k_iconst hC dX8_turn_71 ?_
                refine lv_goto (tgt := 76) hx hb dX8_turn_72 (by decide) ?_
                refine lv_istore (lv' := [(5, .int (zi 1)), (4, .int (zi (4 * p + (τ 5 p 0 - 1)))), (2, .int (zi n)), (3, .int (zi g)), (0, .ref (ad 0 0)), (1, .int (zi p))]) hx hb dX8_turn_76 hl (by decide) rfl (fun ls hl => ?_)
                refine lv_iload hx hb dX8_turn_78 (lv_at hl 0 rfl) ?_
                refine k_if_eq (tgt := 106) hC dX8_turn_80 (by decide) (by omega) (fun c9 => absurd c9 (by omega)) (fun c9 => ?_)
                have ht : atEnd τ p := by unfold atEnd; omega
                refine lv_aload_n hx hb dX8_turn_83 rfl (lv_at hl 4 rfl) ?_
                refine mg_depth hC hW hin_X8 hl_44 dX8_turn_84 ?_
                refine lv_iload_n hx hb dX8_turn_87 rfl (lv_at hl 5 rfl) ?_
                refine ma_depth hC hW (by omega) (v := τ 24 p 0) rfl dX8_turn_88 ?_
                refine k_iconst hC dX8_turn_89 ?_
                refine k_icmp_le (tgt := 106) hC dX8_turn_90 (by decide) (by omega) (fun c10 => ?_) (fun c10 => ?_)
                · refine k_iinc (a := n) (lv' := [(2, .int (zi (n + 1))), (5, .int (zi 1)), (4, .int (zi (4 * p + (τ 5 p 0 - 1)))), (3, .int (zi g)), (0, .ref (ad 0 0)), (1, .int (zi p))]) hC dX8_turn_106 hl (k := 2) rfl (by decide) rfl (fun ls hl => ?_)
                  refine lv_aload_n hx hb dX8_turn_109 rfl (lv_at hl 4 rfl) ?_
                  refine lv_dup hx hb dX8_turn_110 rfl ?_
                  refine mg_done_f hC hW hin_X8 hl_156 (v := τ 29 0 0) rfl dX8_turn_111 ?_
                  refine k_lconst (v := 1) hC dX8_turn_114 (by decide) ?_
                  refine k_ladd hC dX8_turn_115 ?_
                  refine mp_done_f hC hW hin_X8 hl_156 hS dX8_turn_116 (fun H locs hW hS => ?_)
                  obtain ⟨σ4, hσ4⟩ : ∃ z, z = ups τ 29 0 0 ((τ 29 0 0) + 1) := ⟨_, rfl⟩
                  rw [← hσ4] at hW
                  have cst : ¬ (1 < τ 5 p 0 ∧ atEnd τ p) := by rintro ⟨z1, z2⟩; unfold atEnd at z2; omega
                  obtain ⟨σ5, hσ5⟩ : ∃ z, z = fHead τ p := ⟨_, rfl⟩
                  have hW : WP Dg mcnt ad (mE cA ad σ5) _ := (sw hW (by rw [hσ5, hσ4, fHead_stop (by rintro ⟨z1, z2⟩; unfold atEnd at z2; omega)]))
                  refine lv_iload hx hb dX8_turn_119 (lv_at hl 1 rfl) ?_
                  have hJ : Inv N M σ5 := by rw [hσ5]; exact Inv_fHead j1
                  have qa : ∀ (t : Nat) (i j : Int), t ≠ 29 → σ5 t i j = τ t i j := fun t i j z => by rw [hσ5, fHead_stop cst, ups_t _ z]
                  have q5 := qa 5 p 0 (by decide)
                  have q6 := qa 6 p 0 (by decide)
                  have q8 := qa 8 p 0 (by decide)
                  have q11 := qa 11 p 0 (by decide)
                  have q24 := qa 24 p 0 (by decide)
                  have q4 := qa 4 p (τ 5 p 0 - 1) (by decide)
                  have q3 := qa 3 (8 + 4 * p + (τ 5 p 0 - 1)) 0 (by decide)
                  obtain ⟨l1, l2⟩ := hJ.L p hp.1 hp.2
                  refine k_if_eq (tgt := 140) hC dX8_turn_121 (by decide) (by omega) (fun c11 => absurd c11 (by omega)) (fun c11 => ?_)
                  have h51 : τ 5 p 0 = 1 := by omega
                  have hte : atEnd σ5 p := by unfold atEnd; rw [q5, q3, q4]; omega
                  refine lv_aload_n hx hb dX8_turn_124 rfl (lv_at hl 4 rfl) ?_
                  refine lv_aload_n hx hb dX8_turn_125 rfl (lv_at hl 4 rfl) ?_
                  refine mg_pileList hC hW hin_X8 hl_28 dX8_turn_126 ?_
                  refine lv_iload hx hb dX8_turn_129 (lv_at hl 2 rfl) ?_
                  refine ma_pileList hC hW p (τ 5 p 0 - 1) (by omega) (by omega) (by omega) (v := σ5 7 p 0) (by rw [show (τ 5 p 0 - 1 : Int) = 0 by omega]) dX8_turn_131 ?_
                  refine lv_iload hx hb dX8_turn_132 (lv_at hl 2 rfl) ?_
                  refine k_top0 (show (4 * p + (τ 5 p 0 - 1) : Int) = 4 * p + 0 from by omega) ?_
                  refine k_callV (As := [.int (zi (σ5 7 p 0)), .int (zi (4 * p + 0))]) (rest := []) hX hl.1 (n_copies hI σ5 (σ5 7 p 0) p 0 (by omega) hp (by omega) (hJ.R _ (by omega) (by omega)).1) (cwV 2 hts gX8_turn_X8_copies rfl rfl rfl (by decide +kernel) ⟨Nat.le_of_ble_eq_true rfl, Nat.le_of_ble_eq_true rfl⟩) (rc_M hC hW) hW hS ⟨Nat.zero_le _, Nat.zero_le _⟩ rfl rfl (Nat.le_of_ble_eq_true rfl) dX8_turn_134 (fun H locs hW hS _ _ => ?_)
                  obtain ⟨σ6, hσ6⟩ : ∃ z, z = ups (ups (fCopy σ5 (8 + (4 * p + 0)) (σ5 7 p 0)) 4 p 0 0) 7 p 0 (σ5 7 p 0) := ⟨_, rfl⟩
                  rw [← hσ6] at hW
                  refine lv_goto (tgt := 148) hx hb dX8_turn_137 (by decide) ?_
                  refine lv_goto (tgt := 37) hx hb dX8_turn_148 (by decide) ?_
                  have hl := Eq.mp (congrArg (fun z : Int => lv_has ls 6 [(2, .int (zi z)), (5, .int (zi 1)), (4, .int (zi (4 * p + (τ 5 p 0 - 1)))), (3, .int (zi g)), (0, .ref (ad 0 0)), (1, .int (zi p))]) (show (n + 1 : Int) = (n + 1) by omega)) hl
                  have hb := ((Inv_fLine j1 hp j2 j5).D p hp.1 hp.2).1
                  exact ih_37 (fLine τ p) (n + 1) g (by omega) (by omega) (by have z := turnM_line i2 (by omega) (by omega) hp; rw [show oLine τ p = 0 from (by unfold oLine; rw [← hσ5]; unfold oDo; rw [if_pos hte])] at z; rw [show g = 1 by omega]; exact z) hb i4 _ _ (by unfold fLine; rw [← hσ5]; exact turnM_cp hW hσ6 rfl (by omega) hte) hS _ (lv_sub hl [0, 3, 4, 5] rfl)
                · refine lv_aload_n hx hb dX8_turn_93 rfl (lv_at hl 4 rfl) ?_
                  refine mg_depth hC hW hin_X8 hl_44 dX8_turn_94 ?_
                  refine lv_iload_n hx hb dX8_turn_97 rfl (lv_at hl 5 rfl) ?_
                  refine lv_dup2_11 hx hb dX8_turn_98 rfl rfl ?_
                  refine ma_depth hC hW (by omega) (v := τ 24 p 0) rfl dX8_turn_99 ?_
                  refine k_iconst hC dX8_turn_100 ?_
                  refine k_isub hC dX8_turn_101 ?_
                  refine ms_depth hC hW (by omega) hS dX8_turn_102 (fun H locs hW hS => ?_)
                  obtain ⟨σ7, hσ7⟩ : ∃ z, z = ups τ 24 p 0 ((τ 24 p 0) - 1) := ⟨_, rfl⟩
                  rw [← hσ7] at hW
                  refine lv_goto (tgt := 148) hx hb dX8_turn_103 (by decide) ?_
                  refine lv_goto (tgt := 37) hx hb dX8_turn_148 (by decide) ?_
                  have hb := pop1_h τ p
                  exact ih_37 (pop1 τ p) n g (by omega) (by omega) (turnM_pop i2 (by omega) (by omega) hp (by omega) ht) (by omega) i4 _ _ (by unfold pop1; rw [ups_comm _ (show (5 : Nat) ≠ 24 by decide)]; exact ghM (u := 5) (fun _ => rfl) (sw hW (by rw [hσ7, d3.2]))) hS _ (lv_sub hl [2, 3, 4, 5] rfl)
      exact loop_37 (Int.toNat ((8 - 0) * 5 + σ 5 p 0) + 1) σ 0 1 (by omega) (by omega) ⟨hv, hs, Or.inl ⟨rfl, rfl, by omega, rfl⟩⟩ hD0 (by omega) _ _ hW hS _ (lv_sub hl [1, 0, 2, 3] rfl)
  · refine lv_aload_n hx hb dX8_turn_9 rfl (lv_at hl 0 rfl) ?_
    refine mg_ticks hC hW hin_X8 hl_53 dX8_turn_10 ?_
    refine lv_iload_n hx hb dX8_turn_13 rfl (lv_at hl 1 rfl) ?_
    refine lv_dup2_11 hx hb dX8_turn_14 rfl rfl ?_
    refine ma_ticks hC hW (by omega) (v := σ 10 p 0) rfl dX8_turn_15 ?_
    refine k_iconst hC dX8_turn_16 ?_
    refine k_isub hC dX8_turn_17 ?_
    refine ms_ticks hC hW (by omega) hS dX8_turn_18 (fun H locs hW hS => ?_)
    obtain ⟨σ8, hσ8⟩ : ∃ z, z = ups σ 10 p 0 ((σ 10 p 0) - 1) := ⟨_, rfl⟩
    rw [← hσ8] at hW
    have hW : WP Dg mcnt ad (mE cA ad (fTurn σ p)) _ := (sw hW (by rw [hσ8, fTurn, if_pos (by omega)]))
    exact k_vret hX hW hS dX8_turn_19
end M7C
