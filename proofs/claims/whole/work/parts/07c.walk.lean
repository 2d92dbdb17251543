section M7A
set_option maxHeartbeats 1000000 in
set_option maxRecDepth 100000 in
theorem n_shows {l : Launch} {Dg : va_G} {cA : Nat → ClassId} {ad : Nat → Int → Nat} {oc : Nat → Nat} (hI : WI mcnt ad) {N M : Int} (σ : St) (k n : Int) (hv : Inv N M σ) (hk : 0 ≤ k ∧ k < 6) (hnn : 0 ≤ n ∧ n < 100) (hN : N ≤ 1000000) : GI l yX8_shows wsX8_shows ({ frames := 1, cells := 0, slots := 0, locals := 24 } : Room) Dg cA mcnt ad oc (mE cA ad σ) [.ref (ad 0 0), .int (zi k), .int (zi n)] (if oShow σ k n = 1 then 1 else 0) (mE cA ad (fShow σ k n)) := by
  intro sz
  refine g_ent (cc := cX8_shows) (maxL := 5) (ret := (some .boolean)) (by decide) rfl hI (Nat.le_of_ble_eq_true rfl) ?_
  intro pgm env s₀ m₀ bel mth cod hX hW hS hsz ls hl
  subst hsz
  have hC := hX.1
  have hx := hC.1
  have hb := hC.2.1
  have hts := hC.2.2.2.1
  have hl : lv_has ls 5 [(0, .ref (ad 0 0)), (1, .int (zi k)), (2, .int (zi n))] := hl
  have hin_X8 : ∀ w ∈ wsX80, w ∈ wsX8_shows := by decide +kernel
  have hl_62 := hts (.fieldLink RX8 62 "KioskReelModel" "slide" "[I") (by decide +kernel)
  have hl_80 := hts (.fieldLink RX8 80 "KioskReelModel" "saw" "[I") (by decide +kernel)
  have hl_86 := hts (.fieldLink RX8 86 "KioskReelModel" "asked" "[Z") (by decide +kernel)
  have hl_173 := hts (.fieldLink RX8 173 "KioskReelModel" "visitors" "I") (by decide +kernel)
  have hl_179 := hts (.fieldLink RX8 179 "KioskReelModel" "shown" "I") (by decide +kernel)
  have hA := hv.A
  unfold IvA at hA
  refine k_iconst hC dX8_shows_0 ?_
  refine lv_istore_n (lv' := [(3, .int (zi 0)), (0, .ref (ad 0 0)), (1, .int (zi k)), (2, .int (zi n))]) hx hb dX8_shows_1 rfl hl (by decide) rfl (fun ls hl => ?_)
  refine k_iconst hC dX8_shows_2 ?_
  refine lv_istore (lv' := [(4, .int (zi 0)), (3, .int (zi 0)), (0, .ref (ad 0 0)), (1, .int (zi k)), (2, .int (zi n))]) hx hb dX8_shows_3 hl (by decide) rfl (fun ls hl => ?_)
  have loop_5 : ∀ (fuel : Nat) (i : Int) (f : Int), σ 28 0 0 - i < (fuel : Int) → (0 ≤ i) → (i ≤ σ 28 0 0) → (f = cN (wouldB σ k n) i) → (0 ≤ f ∧ f ≤ i) → ∀ (H : Heap) (locs : List Loc), WP Dg mcnt ad (mE cA ad σ) H → va_S (WA mcnt ad s₀.heap.size) s₀.heap H locs → ∀ ls : Array Slot, lv_has ls 5 [(4, .int (zi i)), (3, .int (zi f)), (0, .ref (ad 0 0)), (1, .int (zi k)), (2, .int (zi n))] → W pgm l env ({ frames := 1, cells := 0, slots := 0, locals := 24 } : Room) s₀ m₀ ([.ref (ad 0 0), .int (zi k), .int (zi n)] : List Value).toArray bel mth cod H locs 0 0 (MQ bel (va_Qi (fun (rr : Int32) (_ : Unit) => rr = zi (if oShow σ k n = 1 then 1 else 0)) (gB Dg mcnt ad (mE cA ad (fShow σ k n))) (WA mcnt ad s₀.heap.size)) ([.ref (ad 0 0), .int (zi k), .int (zi n)] : List Value).toArray s₀ 0 0 (WA mcnt ad s₀.heap.size)) (F0 m₀ 5 ls []) := by
    intro fuel
    induction fuel with
    | zero => intro i f hn i1 i2 i3 i4; exact absurd hn (by omega)
    | succ fuel ih_5 =>
      intro i f hn i1 i2 i3 i4 H locs hW hS ls hl
      refine lv_iload hx hb dX8_shows_5 (lv_at hl 0 rfl) ?_
      refine lv_aload_n hx hb dX8_shows_7 rfl (lv_at hl 2 rfl) ?_
      refine mg_visitors_f hC hW hin_X8 hl_173 (v := σ 28 0 0) rfl dX8_shows_8 ?_
      refine k_icmp_ge (tgt := 39) hC dX8_shows_11 (by decide) (by omega) (fun c1 => ?_) (fun c1 => ?_)
      · refine lv_iload_n hx hb dX8_shows_39 rfl (lv_at hl 1 rfl) ?_
        refine k_if_ne (tgt := 53) hC dX8_shows_40 (by decide) (by omega) (fun c2 => ?_) (fun c2 => ?_)
        · have hi : i = σ 28 0 0 := by omega
          rw [hi] at i3
          have hns : ¬ (hasV σ k ∧ ¬ someS σ k n) := by
            rintro ⟨z1, z2⟩
            have z1 : 0 < cN (fun v => decide (σ 22 v 0 = k)) (σ 28 0 0) := z1
            have z2 : ¬ 0 < cN (wouldB σ k n) (σ 28 0 0) := z2
            omega
          refine lv_aload_n hx hb dX8_shows_53 rfl (lv_at hl 2 rfl) ?_
          refine mg_slide hC hW hin_X8 hl_62 dX8_shows_54 ?_
          refine lv_iload_n hx hb dX8_shows_57 rfl (lv_at hl 3 rfl) ?_
          refine lv_iload_n hx hb dX8_shows_58 rfl (lv_at hl 4 rfl) ?_
          refine ms_slide hC hW (by omega) hS dX8_shows_59 (fun H locs hW hS => ?_)
          obtain ⟨σ1, hσ1⟩ : ∃ z, z = ups σ 15 k 0 n := ⟨_, rfl⟩
          rw [← hσ1] at hW
          refine lv_aload_n hx hb dX8_shows_60 rfl (lv_at hl 2 rfl) ?_
          refine lv_dup hx hb dX8_shows_61 rfl ?_
          refine mg_shown_f hC hW hin_X8 hl_179 (by rw [hσ1, ups_t _ (by decide)]) dX8_shows_62 ?_
          refine k_iconst hC dX8_shows_65 ?_
          refine k_iadd hC dX8_shows_66 ?_
          refine mp_shown_f hC hW hin_X8 hl_179 hS dX8_shows_67 (fun H locs hW hS => ?_)
          obtain ⟨σ2, hσ2⟩ : ∃ z, z = ups σ1 30 0 0 ((σ 30 0 0) + 1) := ⟨_, rfl⟩
          rw [← hσ2] at hW
          refine k_iconst hC dX8_shows_70 ?_
          refine lv_istore (lv' := [(4, .int (zi 0)), (3, .int (zi f)), (0, .ref (ad 0 0)), (1, .int (zi k)), (2, .int (zi n))]) hx hb dX8_shows_71 hl (by decide) rfl (fun ls hl => ?_)
          have loop_73 : ∀ (fuel : Nat) (i : Int), σ 28 0 0 - i < (fuel : Int) → (0 ≤ i) → (i ≤ σ 28 0 0) → ∀ (H : Heap) (locs : List Loc), WP Dg mcnt ad (mE cA ad (shM σ k n i)) H → va_S (WA mcnt ad s₀.heap.size) s₀.heap H locs → ∀ ls : Array Slot, lv_has ls 5 [(4, .int (zi i)), (0, .ref (ad 0 0)), (1, .int (zi k)), (2, .int (zi n))] → W pgm l env ({ frames := 1, cells := 0, slots := 0, locals := 24 } : Room) s₀ m₀ ([.ref (ad 0 0), .int (zi k), .int (zi n)] : List Value).toArray bel mth cod H locs 0 0 (MQ bel (va_Qi (fun (rr : Int32) (_ : Unit) => rr = zi (if oShow σ k n = 1 then 1 else 0)) (gB Dg mcnt ad (mE cA ad (fShow σ k n))) (WA mcnt ad s₀.heap.size)) ([.ref (ad 0 0), .int (zi k), .int (zi n)] : List Value).toArray s₀ 0 0 (WA mcnt ad s₀.heap.size)) (F0 m₀ 73 ls []) := by
            intro fuel
            induction fuel with
            | zero => intro i hn j1 j2; exact absurd hn (by omega)
            | succ fuel ih_73 =>
              intro i hn j1 j2 H locs hW hS ls hl
              obtain ⟨σ3, hσ3⟩ : ∃ z, z = shM σ k n i := ⟨_, rfl⟩
              rw [← hσ3] at hW
              refine lv_iload hx hb dX8_shows_73 (lv_at hl 0 rfl) ?_
              refine lv_aload_n hx hb dX8_shows_75 rfl (lv_at hl 1 rfl) ?_
              refine mg_visitors_f hC hW hin_X8 hl_173 (by rw [hσ3, shM_T _ _ _ _ (t := 28) (by decide)]) dX8_shows_76 ?_
              refine k_icmp_ge (tgt := 128) hC dX8_shows_79 (by decide) (by omega) (fun c3 => ?_) (fun c3 => ?_)
              · refine k_iconst hC dX8_shows_128 ?_
                have hW : WP Dg mcnt ad (mE cA ad (fShow σ k n)) _ := (sw hW (by rw [hσ3, fShow, if_neg hns, show i = σ 28 0 0 by omega]; rfl))
                exact k_zret hX (by omega) (if_pos (by rw [oShow, if_neg hns])).symm hW hS dX8_shows_129
              · refine lv_aload_n hx hb dX8_shows_82 rfl (lv_at hl 1 rfl) ?_
                refine lv_iload hx hb dX8_shows_83 (lv_at hl 0 rfl) ?_
                refine lv_iload_n hx hb dX8_shows_85 rfl (lv_at hl 2 rfl) ?_
                refine lv_iload_n hx hb dX8_shows_86 rfl (lv_at hl 3 rfl) ?_
                have hV1 := (hv.V i (by omega) (by omega)).1
                have hV2 := (hv.V i (by omega) (by omega)).2 n (by omega) (by omega)
                have e19 : σ3 19 i n = σ 19 i n := by rw [hσ3]; unfold shM; rw [ups_t _ (by decide), ups_t _ (by decide), seeP_rd _ _ _ _ _ _ (Int.le_refl _)]
                have e21 : σ3 21 i n = σ 21 i n := by rw [hσ3]; unfold shM; rw [ups_t _ (by decide), ups_t _ (by decide), seeP_rd _ _ _ _ _ _ (Int.le_refl _)]
                have e22 : σ3 22 i 0 = σ 22 i 0 := by rw [hσ3, shM_T _ _ _ _ 22 (by decide)]
                have ew : wouldB σ3 k n i = wouldB σ k n i := by rw [hσ3]; exact shM_w σ k n (Int.le_refl _)
                refine k_callI (As := [.int (zi i), .int (zi k), .int (zi n)]) (rest := []) hX hl.1 (n_sees hI σ3 i k n (by omega) (by omega) (by omega) (by rw [e22]; omega) (by rw [e19]; omega) (by rw [e21]; omega)) (cwV 3 hts gX8_shows_X8_sees rfl rfl rfl (by decide +kernel) ⟨Nat.le_of_ble_eq_true rfl, Nat.le_of_ble_eq_true rfl⟩) (rc_M hC hW) hW hS ⟨Nat.zero_le _, Nat.zero_le _⟩ rfl rfl (Nat.le_of_ble_eq_true rfl) dX8_shows_87 (fun H locs hW hS _ _ => ?_)
                rcases Classical.em (wouldB σ k n i = true) with hac | hac
                · refine k_top0 (show ((if wouldB σ3 k n i = true then 1 else 0) : Int) = 1 from (if_pos (ew.trans hac))) ?_
                  refine k_if_eq (tgt := 122) hC dX8_shows_90 (by decide) (by omega) (fun c4 => absurd c4 (by omega)) (fun c4 => ?_)
                  refine lv_aload_n hx hb dX8_shows_93 rfl (lv_at hl 1 rfl) ?_
                  refine mg_saw hC hW hin_X8 hl_80 dX8_shows_94 ?_
                  refine k_bipush hC dX8_shows_97 (by decide) ?_
                  refine lv_iload hx hb dX8_shows_99 (lv_at hl 0 rfl) ?_
                  refine k_imul hC dX8_shows_101 ?_
                  refine lv_iload_n hx hb dX8_shows_102 rfl (lv_at hl 3 rfl) ?_
                  refine k_iadd hC dX8_shows_103 ?_
                  refine lv_dup2_11 hx hb dX8_shows_104 rfl rfl ?_
                  refine ma_saw hC hW i n (by omega) (by omega) (by omega) (v := σ 19 i n) e19 dX8_shows_105 ?_
                  refine k_iconst hC dX8_shows_106 ?_
                  refine k_iadd hC dX8_shows_107 ?_
                  refine ms_saw hC hW i n (by omega) (by omega) (by omega) hS dX8_shows_108 (fun H locs hW hS => ?_)
                  obtain ⟨σ4, hσ4⟩ : ∃ z, z = ups σ3 19 i n ((σ 19 i n) + 1) := ⟨_, rfl⟩
                  rw [← hσ4] at hW
                  refine lv_aload_n hx hb dX8_shows_109 rfl (lv_at hl 1 rfl) ?_
                  refine mg_asked hC hW hin_X8 hl_86 dX8_shows_110 ?_
                  refine k_bipush hC dX8_shows_113 (by decide) ?_
                  refine lv_iload hx hb dX8_shows_115 (lv_at hl 0 rfl) ?_
                  refine k_imul hC dX8_shows_117 ?_
                  refine lv_iload_n hx hb dX8_shows_118 rfl (lv_at hl 3 rfl) ?_
                  refine k_iadd hC dX8_shows_119 ?_
                  refine k_iconst hC dX8_shows_120 ?_
                  refine ms_asked hC hW i n (by omega) (by omega) (by omega) hS (by omega) dX8_shows_121 (fun H locs hW hS => ?_)
                  obtain ⟨σ5, hσ5⟩ : ∃ z, z = ups σ4 21 i n 0 := ⟨_, rfl⟩
                  rw [← hσ5] at hW
                  refine k_iinc (a := i) (lv' := [(4, .int (zi (i + 1))), (0, .ref (ad 0 0)), (1, .int (zi k)), (2, .int (zi n))]) hC dX8_shows_122 hl (k := 0) rfl (by decide) rfl (fun ls hl => ?_)
                  refine lv_goto (tgt := 73) hx hb dX8_shows_125 (by decide) ?_
                  have hl := Eq.mp (congrArg (fun z : Int => lv_has ls 5 [(4, .int (zi z)), (0, .ref (ad 0 0)), (1, .int (zi k)), (2, .int (zi n))]) (show (i + 1 : Int) = (i + 1) by omega)) hl
                  exact ih_73 (i + 1) (by omega) (by omega) (by omega) _ _ (sw hW (by rw [hσ5, hσ4, hσ3]; exact shM_go σ j1 hac)) hS _ (lv_sub hl [0, 1, 2, 3] rfl)
                · refine k_top0 (show ((if wouldB σ3 k n i = true then 1 else 0) : Int) = 0 from (if_neg (fun z => hac (ew.symm.trans z)))) ?_
                  refine k_if_eq (tgt := 122) hC dX8_shows_90 (by decide) (by omega) (fun c5 => ?_) (fun c5 => absurd c5 (by omega))
                  refine k_iinc (a := i) (lv' := [(4, .int (zi (i + 1))), (0, .ref (ad 0 0)), (1, .int (zi k)), (2, .int (zi n))]) hC dX8_shows_122 hl (k := 0) rfl (by decide) rfl (fun ls hl => ?_)
                  refine lv_goto (tgt := 73) hx hb dX8_shows_125 (by decide) ?_
                  have hl := Eq.mp (congrArg (fun z : Int => lv_has ls 5 [(4, .int (zi z)), (0, .ref (ad 0 0)), (1, .int (zi k)), (2, .int (zi n))]) (show (i + 1 : Int) = (i + 1) by omega)) hl
                  exact ih_73 (i + 1) (by omega) (by omega) (by omega) _ _ (sw hW (by rw [hσ3]; exact shM_skip σ hac)) hS _ (lv_sub hl [0, 1, 2, 3] rfl)
          exact loop_73 (Int.toNat (σ 28 0 0 - 0) + 1) 0 (by omega) (by omega) (by omega) _ _ (sw hW (by rw [hσ2, hσ1]; exact shM_0 σ k n)) hS _ (lv_sub hl [0, 2, 3, 4] rfl)
        · refine lv_aload_n hx hb dX8_shows_43 rfl (lv_at hl 2 rfl) ?_
          refine lv_iload_n hx hb dX8_shows_44 rfl (lv_at hl 3 rfl) ?_
          refine k_callI (As := [.int (zi k)]) (rest := []) hX hl.1 (n_present hI σ k hv (by omega)) (cwV 1 hts gX8_shows_X8_present rfl rfl rfl (by decide +kernel) ⟨Nat.le_of_ble_eq_true rfl, Nat.le_of_ble_eq_true rfl⟩) (rc_M hC hW) hW hS ⟨Nat.zero_le _, Nat.zero_le _⟩ rfl rfl (Nat.le_of_ble_eq_true rfl) dX8_shows_45 (fun H locs hW hS _ _ => ?_)
          have hcr := cN_rng (fun v => decide (σ 22 v 0 = k)) (i := σ 28 0 0) (by omega)
          refine k_if_le (tgt := 53) hC dX8_shows_48 (by decide) (by omega) (fun c6 => ?_) (fun c6 => ?_)
          · have hi : i = σ 28 0 0 := by omega
            rw [hi] at i3
            have hns : ¬ (hasV σ k ∧ ¬ someS σ k n) := by
              rintro ⟨z1, z2⟩
              have z1 : 0 < cN (fun v => decide (σ 22 v 0 = k)) (σ 28 0 0) := z1
              have z2 : ¬ 0 < cN (wouldB σ k n) (σ 28 0 0) := z2
              omega
            refine lv_aload_n hx hb dX8_shows_53 rfl (lv_at hl 2 rfl) ?_
            refine mg_slide hC hW hin_X8 hl_62 dX8_shows_54 ?_
            refine lv_iload_n hx hb dX8_shows_57 rfl (lv_at hl 3 rfl) ?_
            refine lv_iload_n hx hb dX8_shows_58 rfl (lv_at hl 4 rfl) ?_
            refine ms_slide hC hW (by omega) hS dX8_shows_59 (fun H locs hW hS => ?_)
            obtain ⟨σ6, hσ6⟩ : ∃ z, z = ups σ 15 k 0 n := ⟨_, rfl⟩
            rw [← hσ6] at hW
            refine lv_aload_n hx hb dX8_shows_60 rfl (lv_at hl 2 rfl) ?_
            refine lv_dup hx hb dX8_shows_61 rfl ?_
            refine mg_shown_f hC hW hin_X8 hl_179 (by rw [hσ6, ups_t _ (by decide)]) dX8_shows_62 ?_
            refine k_iconst hC dX8_shows_65 ?_
            refine k_iadd hC dX8_shows_66 ?_
            refine mp_shown_f hC hW hin_X8 hl_179 hS dX8_shows_67 (fun H locs hW hS => ?_)
            obtain ⟨σ7, hσ7⟩ : ∃ z, z = ups σ6 30 0 0 ((σ 30 0 0) + 1) := ⟨_, rfl⟩
            rw [← hσ7] at hW
            refine k_iconst hC dX8_shows_70 ?_
            refine lv_istore (lv' := [(4, .int (zi 0)), (3, .int (zi f)), (0, .ref (ad 0 0)), (1, .int (zi k)), (2, .int (zi n))]) hx hb dX8_shows_71 hl (by decide) rfl (fun ls hl => ?_)
            have loop_73 : ∀ (fuel : Nat) (i : Int), σ 28 0 0 - i < (fuel : Int) → (0 ≤ i) → (i ≤ σ 28 0 0) → ∀ (H : Heap) (locs : List Loc), WP Dg mcnt ad (mE cA ad (shM σ k n i)) H → va_S (WA mcnt ad s₀.heap.size) s₀.heap H locs → ∀ ls : Array Slot, lv_has ls 5 [(4, .int (zi i)), (0, .ref (ad 0 0)), (1, .int (zi k)), (2, .int (zi n))] → W pgm l env ({ frames := 1, cells := 0, slots := 0, locals := 24 } : Room) s₀ m₀ ([.ref (ad 0 0), .int (zi k), .int (zi n)] : List Value).toArray bel mth cod H locs 0 0 (MQ bel (va_Qi (fun (rr : Int32) (_ : Unit) => rr = zi (if oShow σ k n = 1 then 1 else 0)) (gB Dg mcnt ad (mE cA ad (fShow σ k n))) (WA mcnt ad s₀.heap.size)) ([.ref (ad 0 0), .int (zi k), .int (zi n)] : List Value).toArray s₀ 0 0 (WA mcnt ad s₀.heap.size)) (F0 m₀ 73 ls []) := by
              intro fuel
              induction fuel with
              | zero => intro i hn j1 j2; exact absurd hn (by omega)
              | succ fuel ih_73 =>
                intro i hn j1 j2 H locs hW hS ls hl
                obtain ⟨σ8, hσ8⟩ : ∃ z, z = shM σ k n i := ⟨_, rfl⟩
                rw [← hσ8] at hW
                refine lv_iload hx hb dX8_shows_73 (lv_at hl 0 rfl) ?_
                refine lv_aload_n hx hb dX8_shows_75 rfl (lv_at hl 1 rfl) ?_
                refine mg_visitors_f hC hW hin_X8 hl_173 (by rw [hσ8, shM_T _ _ _ _ (t := 28) (by decide)]) dX8_shows_76 ?_
                refine k_icmp_ge (tgt := 128) hC dX8_shows_79 (by decide) (by omega) (fun c7 => ?_) (fun c7 => ?_)
                · refine k_iconst hC dX8_shows_128 ?_
                  have hW : WP Dg mcnt ad (mE cA ad (fShow σ k n)) _ := (sw hW (by rw [hσ8, fShow, if_neg hns, show i = σ 28 0 0 by omega]; rfl))
                  exact k_zret hX (by omega) (if_pos (by rw [oShow, if_neg hns])).symm hW hS dX8_shows_129
                · refine lv_aload_n hx hb dX8_shows_82 rfl (lv_at hl 1 rfl) ?_
                  refine lv_iload hx hb dX8_shows_83 (lv_at hl 0 rfl) ?_
                  refine lv_iload_n hx hb dX8_shows_85 rfl (lv_at hl 2 rfl) ?_
                  refine lv_iload_n hx hb dX8_shows_86 rfl (lv_at hl 3 rfl) ?_
                  have hV1 := (hv.V i (by omega) (by omega)).1
                  have hV2 := (hv.V i (by omega) (by omega)).2 n (by omega) (by omega)
                  have e19 : σ8 19 i n = σ 19 i n := by rw [hσ8]; unfold shM; rw [ups_t _ (by decide), ups_t _ (by decide), seeP_rd _ _ _ _ _ _ (Int.le_refl _)]
                  have e21 : σ8 21 i n = σ 21 i n := by rw [hσ8]; unfold shM; rw [ups_t _ (by decide), ups_t _ (by decide), seeP_rd _ _ _ _ _ _ (Int.le_refl _)]
                  have e22 : σ8 22 i 0 = σ 22 i 0 := by rw [hσ8, shM_T _ _ _ _ 22 (by decide)]
                  have ew : wouldB σ8 k n i = wouldB σ k n i := by rw [hσ8]; exact shM_w σ k n (Int.le_refl _)
                  refine k_callI (As := [.int (zi i), .int (zi k), .int (zi n)]) (rest := []) hX hl.1 (n_sees hI σ8 i k n (by omega) (by omega) (by omega) (by rw [e22]; omega) (by rw [e19]; omega) (by rw [e21]; omega)) (cwV 3 hts gX8_shows_X8_sees rfl rfl rfl (by decide +kernel) ⟨Nat.le_of_ble_eq_true rfl, Nat.le_of_ble_eq_true rfl⟩) (rc_M hC hW) hW hS ⟨Nat.zero_le _, Nat.zero_le _⟩ rfl rfl (Nat.le_of_ble_eq_true rfl) dX8_shows_87 (fun H locs hW hS _ _ => ?_)
                  rcases Classical.em (wouldB σ k n i = true) with hac | hac
                  · refine k_top0 (show ((if wouldB σ8 k n i = true then 1 else 0) : Int) = 1 from (if_pos (ew.trans hac))) ?_
                    refine k_if_eq (tgt := 122) hC dX8_shows_90 (by decide) (by omega) (fun c8 => absurd c8 (by omega)) (fun c8 => ?_)
                    refine lv_aload_n hx hb dX8_shows_93 rfl (lv_at hl 1 rfl) ?_
                    refine mg_saw hC hW hin_X8 hl_80 dX8_shows_94 ?_
                    refine k_bipush hC dX8_shows_97 (by decide) ?_
                    refine lv_iload hx hb dX8_shows_99 (lv_at hl 0 rfl) ?_
                    refine k_imul hC dX8_shows_101 ?_
                    refine lv_iload_n hx hb dX8_shows_102 rfl (lv_at hl 3 rfl) ?_
                    refine k_iadd hC dX8_shows_103 ?_
                    refine lv_dup2_11 hx hb dX8_shows_104 rfl rfl ?_
                    refine ma_saw hC hW i n (by omega) (by omega) (by omega) (v := σ 19 i n) e19 dX8_shows_105 ?_
                    refine k_iconst hC dX8_shows_106 ?_
                    refine k_iadd hC dX8_shows_107 ?_
                    refine ms_saw hC hW i n (by omega) (by omega) (by omega) hS dX8_shows_108 (fun H locs hW hS => ?_)
                    obtain ⟨σ9, hσ9⟩ : ∃ z, z = ups σ8 19 i n ((σ 19 i n) + 1) := ⟨_, rfl⟩
                    rw [← hσ9] at hW
                    refine lv_aload_n hx hb dX8_shows_109 rfl (lv_at hl 1 rfl) ?_
                    refine mg_asked hC hW hin_X8 hl_86 dX8_shows_110 ?_
                    refine k_bipush hC dX8_shows_113 (by decide) ?_
                    refine lv_iload hx hb dX8_shows_115 (lv_at hl 0 rfl) ?_
                    refine k_imul hC dX8_shows_117 ?_
                    refine lv_iload_n hx hb dX8_shows_118 rfl (lv_at hl 3 rfl) ?_
                    refine k_iadd hC dX8_shows_119 ?_
                    refine k_iconst hC dX8_shows_120 ?_
                    refine ms_asked hC hW i n (by omega) (by omega) (by omega) hS (by omega) dX8_shows_121 (fun H locs hW hS => ?_)
                    obtain ⟨σ10, hσ10⟩ : ∃ z, z = ups σ9 21 i n 0 := ⟨_, rfl⟩
                    rw [← hσ10] at hW
                    refine k_iinc (a := i) (lv' := [(4, .int (zi (i + 1))), (0, .ref (ad 0 0)), (1, .int (zi k)), (2, .int (zi n))]) hC dX8_shows_122 hl (k := 0) rfl (by decide) rfl (fun ls hl => ?_)
                    refine lv_goto (tgt := 73) hx hb dX8_shows_125 (by decide) ?_
                    have hl := Eq.mp (congrArg (fun z : Int => lv_has ls 5 [(4, .int (zi z)), (0, .ref (ad 0 0)), (1, .int (zi k)), (2, .int (zi n))]) (show (i + 1 : Int) = (i + 1) by omega)) hl
                    exact ih_73 (i + 1) (by omega) (by omega) (by omega) _ _ (sw hW (by rw [hσ10, hσ9, hσ8]; exact shM_go σ j1 hac)) hS _ (lv_sub hl [0, 1, 2, 3] rfl)
                  · refine k_top0 (show ((if wouldB σ8 k n i = true then 1 else 0) : Int) = 0 from (if_neg (fun z => hac (ew.symm.trans z)))) ?_
                    refine k_if_eq (tgt := 122) hC dX8_shows_90 (by decide) (by omega) (fun c9 => ?_) (fun c9 => absurd c9 (by omega))
                    refine k_iinc (a := i) (lv' := [(4, .int (zi (i + 1))), (0, .ref (ad 0 0)), (1, .int (zi k)), (2, .int (zi n))]) hC dX8_shows_122 hl (k := 0) rfl (by decide) rfl (fun ls hl => ?_)
                    refine lv_goto (tgt := 73) hx hb dX8_shows_125 (by decide) ?_
                    have hl := Eq.mp (congrArg (fun z : Int => lv_has ls 5 [(4, .int (zi z)), (0, .ref (ad 0 0)), (1, .int (zi k)), (2, .int (zi n))]) (show (i + 1 : Int) = (i + 1) by omega)) hl
                    exact ih_73 (i + 1) (by omega) (by omega) (by omega) _ _ (sw hW (by rw [hσ8]; exact shM_skip σ hac)) hS _ (lv_sub hl [0, 1, 2, 3] rfl)
            exact loop_73 (Int.toNat (σ 28 0 0 - 0) + 1) 0 (by omega) (by omega) (by omega) _ _ (sw hW (by rw [hσ7, hσ6]; exact shM_0 σ k n)) hS _ (lv_sub hl [0, 2, 3, 4] rfl)
          · have hi : i = σ 28 0 0 := by omega
            rw [hi] at i3
            have hns : hasV σ k ∧ ¬ someS σ k n := ⟨by assumption, fun z => by have z : 0 < cN (wouldB σ k n) (σ 28 0 0) := z; omega⟩
            refine k_iconst hC dX8_shows_51 ?_
            have hW : WP Dg mcnt ad (mE cA ad (fShow σ k n)) _ := (by rw [fShow, if_pos hns]; exact hW)
            exact k_zret hX (by omega) (if_neg (by rw [oShow, if_pos hns]; decide)).symm hW hS dX8_shows_52
      · refine lv_iload_n hx hb dX8_shows_14 rfl (lv_at hl 1 rfl) ?_
        refine lv_aload_n hx hb dX8_shows_15 rfl (lv_at hl 2 rfl) ?_
        refine lv_iload hx hb dX8_shows_16 (lv_at hl 0 rfl) ?_
        refine lv_iload_n hx hb dX8_shows_18 rfl (lv_at hl 3 rfl) ?_
        refine lv_iload_n hx hb dX8_shows_19 rfl (lv_at hl 4 rfl) ?_
        have hV1 := (hv.V i (by omega) (by omega)).1
        have hV2 := (hv.V i (by omega) (by omega)).2 n (by omega) (by omega)
        refine k_callI (As := [.int (zi i), .int (zi k), .int (zi n)]) (rest := [.int (zi f)]) hX hl.1 (n_sees hI σ i k n (by omega) (by omega) (by omega) (by omega) (by omega) (by omega)) (cwV 3 hts gX8_shows_X8_sees rfl rfl rfl (by decide +kernel) ⟨Nat.le_of_ble_eq_true rfl, Nat.le_of_ble_eq_true rfl⟩) (rc_M hC hW) hW hS ⟨Nat.zero_le _, Nat.zero_le _⟩ rfl rfl (Nat.le_of_ble_eq_true rfl) dX8_shows_20 (fun H locs hW hS _ _ => ?_)
        rcases Classical.em (wouldB σ k n i = true) with hac | hac
        · refine k_top0 (show ((if wouldB σ k n i = true then 1 else 0) : Int) = 1 from (if_pos hac)) ?_
          refine k_if_eq (tgt := 30) hC dX8_shows_23 (by decide) (by omega) (fun c10 => absurd c10 (by omega)) (fun c10 => ?_)
          refine k_iconst hC dX8_shows_26 ?_
          refine lv_goto (tgt := 31) hx hb dX8_shows_27 (by decide) ?_
          refine k_iadd hC dX8_shows_31 ?_
          refine lv_istore_n (lv' := [(3, .int (zi (f + 1))), (4, .int (zi i)), (0, .ref (ad 0 0)), (1, .int (zi k)), (2, .int (zi n))]) hx hb dX8_shows_32 rfl hl (by decide) rfl (fun ls hl => ?_)
          refine k_iinc (a := i) (lv' := [(4, .int (zi (i + 1))), (3, .int (zi (f + 1))), (0, .ref (ad 0 0)), (1, .int (zi k)), (2, .int (zi n))]) hC dX8_shows_33 hl (k := 1) rfl (by decide) rfl (fun ls hl => ?_)
          refine lv_goto (tgt := 5) hx hb dX8_shows_36 (by decide) ?_
          have hl := Eq.mp (congrArg (fun z : Int => lv_has ls 5 [(4, .int (zi z)), (3, .int (zi (f + 1))), (0, .ref (ad 0 0)), (1, .int (zi k)), (2, .int (zi n))]) (show (i + 1 : Int) = (i + 1) by omega)) hl
          have hl := Eq.mp (congrArg (fun z : Int => lv_has ls 5 [(4, .int (zi (i + 1))), (3, .int (zi z)), (0, .ref (ad 0 0)), (1, .int (zi k)), (2, .int (zi n))]) (show (f + 1 : Int) = (f + 1) by omega)) hl
          exact ih_5 (i + 1) (f + 1) (by omega) (by omega) (by omega) (by rw [cN_s (wouldB σ k n) i1, if_pos hac]; omega) (by omega) _ _ hW hS _ (lv_sub hl [0, 1, 2, 3, 4] rfl)
        · refine k_top0 (show ((if wouldB σ k n i = true then 1 else 0) : Int) = 0 from (if_neg hac)) ?_
          refine k_if_eq (tgt := 30) hC dX8_shows_23 (by decide) (by omega) (fun c11 => ?_) (fun c11 => absurd c11 (by omega))
          refine k_iconst hC dX8_shows_30 ?_
          refine k_iadd hC dX8_shows_31 ?_
          refine lv_istore_n (lv' := [(3, .int (zi (f + 0))), (4, .int (zi i)), (0, .ref (ad 0 0)), (1, .int (zi k)), (2, .int (zi n))]) hx hb dX8_shows_32 rfl hl (by decide) rfl (fun ls hl => ?_)
          refine k_iinc (a := i) (lv' := [(4, .int (zi (i + 1))), (3, .int (zi (f + 0))), (0, .ref (ad 0 0)), (1, .int (zi k)), (2, .int (zi n))]) hC dX8_shows_33 hl (k := 1) rfl (by decide) rfl (fun ls hl => ?_)
          refine lv_goto (tgt := 5) hx hb dX8_shows_36 (by decide) ?_
          have hl := Eq.mp (congrArg (fun z : Int => lv_has ls 5 [(4, .int (zi z)), (3, .int (zi (f + 0))), (0, .ref (ad 0 0)), (1, .int (zi k)), (2, .int (zi n))]) (show (i + 1 : Int) = (i + 1) by omega)) hl
          have hl := Eq.mp (congrArg (fun z : Int => lv_has ls 5 [(4, .int (zi (i + 1))), (3, .int (zi z)), (0, .ref (ad 0 0)), (1, .int (zi k)), (2, .int (zi n))]) (show (f + 0 : Int) = (f + 0) by omega)) hl
          exact ih_5 (i + 1) (f + 0) (by omega) (by omega) (by omega) (by rw [cN_s (wouldB σ k n) i1, if_neg hac]; omega) (by omega) _ _ hW hS _ (lv_sub hl [0, 1, 2, 3, 4] rfl)
  exact loop_5 (Int.toNat (σ 28 0 0 - 0) + 1) 0 0 (by omega) (by omega) (by omega) rfl (by omega) _ _ hW hS _ (lv_sub hl [0, 1, 2, 3, 4] rfl)
set_option maxHeartbeats 1000000 in
set_option maxRecDepth 100000 in
theorem n_takes {l : Launch} {Dg : va_G} {cA : Nat → ClassId} {ad : Nat → Int → Nat} {oc : Nat → Nat} (hI : WI mcnt ad) {N M : Int} (σ : St) (p d : Int) (hv : Inv N M σ) (hp : 0 ≤ p ∧ p < 6) (hd : 0 ≤ d ∧ d < 6) (ha : σ 11 p 0 = -1) (hs : σ 6 p 0 = 1) : GI l yX8_takes wsX8_takes ({ frames := 1, cells := 0, slots := 0, locals := 23 } : Room) Dg cA mcnt ad oc (mE cA ad σ) [.ref (ad 0 0), .int (zi p), .int (zi d)] (if oLease σ p d = 0 then 1 else 0) (mE cA ad (fLease σ p d)) := by
  intro sz
  refine g_ent (cc := cX8_takes) (maxL := 3) (ret := (some .boolean)) (by decide) rfl hI (Nat.le_of_ble_eq_true rfl) ?_
  intro pgm env s₀ m₀ bel mth cod hX hW hS hsz ls hl
  subst hsz
  have hC := hX.1
  have hx := hC.1
  have hb := hC.2.1
  have hts := hC.2.2.2.1
  have hl : lv_has ls 3 [(0, .ref (ad 0 0)), (1, .int (zi p)), (2, .int (zi d))] := hl
  have hin_X8 : ∀ w ∈ wsX80, w ∈ wsX8_takes := by decide +kernel
  have hl_56 := hts (.fieldLink RX8 56 "KioskReelModel" "wanted" "[I") (by decide +kernel)
  have hl_71 := hts (.fieldLink RX8 71 "KioskReelModel" "holder" "[I") (by decide +kernel)
  have hl_74 := hts (.fieldLink RX8 74 "KioskReelModel" "queue" "[I") (by decide +kernel)
  have hl_77 := hts (.fieldLink RX8 77 "KioskReelModel" "queueMany" "[I") (by decide +kernel)
  have hO := (hv.O.1 d hd.1 hd.2).1
  have hh := held_rng σ p
  have hh3 := (hv.O.2 p hp.1 hp.2 hs).1
  have hr : 0 ≤ σ 17 (6 + d) 0 ∧ (σ 18 d 0 ≠ p → σ 17 (6 + d) 0 < 6) := ⟨(hv.W (6 + d) (by omega) (by omega)).1.1, fun _ => room (w := 6 + d) (p := p) hv.W (by omega) (by omega) (fun z => by have := ((hv.Q d p hd.1 hd.2 hp.1 hp.2).mp z).2; omega)⟩
  refine lv_aload_n hx hb dX8_takes_0 rfl (lv_at hl 0 rfl) ?_
  refine mg_holder hC hW hin_X8 hl_71 dX8_takes_1 ?_
  refine lv_iload_n hx hb dX8_takes_4 rfl (lv_at hl 2 rfl) ?_
  refine ma_holder hC hW (by omega) (v := σ 18 d 0) rfl dX8_takes_5 ?_
  refine lv_iload_n hx hb dX8_takes_6 rfl (lv_at hl 1 rfl) ?_
  refine k_icmp_eq (tgt := 19) hC dX8_takes_7 (by decide) (by omega) (fun c1 => ?_) (fun c1 => ?_)
  · refine k_iconst hC dX8_takes_19 ?_
    have hW : WP Dg mcnt ad (mE cA ad (fLease σ p d)) _ := (sw hW (by rw [fLease, if_pos (by omega)]))
    exact k_zret hX (by omega) (if_pos (by rw [oLease, if_pos (by omega)])).symm hW hS dX8_takes_20
  · refine lv_aload_n hx hb dX8_takes_10 rfl (lv_at hl 0 rfl) ?_
    refine lv_iload_n hx hb dX8_takes_11 rfl (lv_at hl 1 rfl) ?_
    refine k_callI (As := [.int (zi p)]) (rest := []) hX hl.1 (n_held hI σ p hv (by omega)) (cwV 1 hts gX8_takes_X8_held rfl rfl rfl (by decide +kernel) ⟨Nat.le_of_ble_eq_true rfl, Nat.le_of_ble_eq_true rfl⟩) (rc_M hC hW) hW hS ⟨Nat.zero_le _, Nat.zero_le _⟩ rfl rfl (Nat.le_of_ble_eq_true rfl) dX8_takes_12 (fun H locs hW hS _ _ => ?_)
    refine k_iconst hC dX8_takes_15 ?_
    refine k_icmp_ne (tgt := 21) hC dX8_takes_16 (by decide) (by omega) (fun c2 => ?_) (fun c2 => ?_)
    · refine lv_aload_n hx hb dX8_takes_21 rfl (lv_at hl 0 rfl) ?_
      refine mg_holder hC hW hin_X8 hl_71 dX8_takes_22 ?_
      refine lv_iload_n hx hb dX8_takes_25 rfl (lv_at hl 2 rfl) ?_
      refine ma_holder hC hW (by omega) (v := σ 18 d 0) rfl dX8_takes_26 ?_
      refine k_if_ge (tgt := 39) hC dX8_takes_27 (by decide) (by omega) (fun c3 => ?_) (fun c3 => ?_)
      · refine lv_aload_n hx hb dX8_takes_39 rfl (lv_at hl 0 rfl) ?_
        refine mg_queue hC hW hin_X8 hl_74 dX8_takes_40 ?_
        refine k_bipush hC dX8_takes_43 (by decide) ?_
        refine lv_iload_n hx hb dX8_takes_45 rfl (lv_at hl 2 rfl) ?_
        refine k_imul hC dX8_takes_46 ?_
        refine lv_aload_n hx hb dX8_takes_47 rfl (lv_at hl 0 rfl) ?_
        refine mg_queueMany hC hW hin_X8 hl_77 dX8_takes_48 ?_
        refine lv_iload_n hx hb dX8_takes_51 rfl (lv_at hl 2 rfl) ?_
        refine ma_queueMany hC hW (by omega) (v := σ 17 (6 + d) 0) rfl dX8_takes_52 ?_
        refine k_iadd hC dX8_takes_53 ?_
        refine lv_iload_n hx hb dX8_takes_54 rfl (lv_at hl 1 rfl) ?_
        refine ms_queue hC hW d (σ 17 (6 + d) 0) (by omega) (by omega) (by omega) hS dX8_takes_55 (fun H locs hW hS => ?_)
        obtain ⟨σ1, hσ1⟩ : ∃ z, z = ups σ 16 (6 + d) (σ 17 (6 + d) 0) p := ⟨_, rfl⟩
        rw [← hσ1] at hW
        refine lv_aload_n hx hb dX8_takes_56 rfl (lv_at hl 0 rfl) ?_
        refine mg_queueMany hC hW hin_X8 hl_77 dX8_takes_57 ?_
        refine lv_iload_n hx hb dX8_takes_60 rfl (lv_at hl 2 rfl) ?_
        refine lv_dup2_11 hx hb dX8_takes_61 rfl rfl ?_
        refine ma_queueMany hC hW (by omega) (v := σ 17 (6 + d) 0) (by rw [hσ1, ups_t _ (by decide)]) dX8_takes_62 ?_
        refine k_iconst hC dX8_takes_63 ?_
        refine k_iadd hC dX8_takes_64 ?_
        refine ms_queueMany hC hW (by omega) hS dX8_takes_65 (fun H locs hW hS => ?_)
        obtain ⟨σ2, hσ2⟩ : ∃ z, z = ups σ1 17 (6 + d) 0 ((σ 17 (6 + d) 0) + 1) := ⟨_, rfl⟩
        rw [← hσ2] at hW
        refine lv_aload_n hx hb dX8_takes_66 rfl (lv_at hl 0 rfl) ?_
        refine mg_wanted hC hW hin_X8 hl_56 dX8_takes_67 ?_
        refine lv_iload_n hx hb dX8_takes_70 rfl (lv_at hl 1 rfl) ?_
        refine lv_iload_n hx hb dX8_takes_71 rfl (lv_at hl 2 rfl) ?_
        refine ms_wanted hC hW (by omega) hS dX8_takes_72 (fun H locs hW hS => ?_)
        obtain ⟨σ3, hσ3⟩ : ∃ z, z = ups σ2 25 p 0 d := ⟨_, rfl⟩
        rw [← hσ3] at hW
        refine k_iconst hC dX8_takes_73 ?_
        have hW : WP Dg mcnt ad (mE cA ad (fLease σ p d)) _ := (by rw [fLease, if_neg (by omega), if_neg (by omega), ups_comm _ (show (11 : Nat) ≠ 25 by decide)]; exact ghM (u := 11) (fun _ => rfl) (sw hW (by rw [hσ3, hσ2, hσ1]; rfl)))
        exact k_zret hX (by omega) (if_neg (by rw [oLease, if_neg (by omega), if_neg (by omega)]; decide)).symm hW hS dX8_takes_74
      · refine lv_aload_n hx hb dX8_takes_30 rfl (lv_at hl 0 rfl) ?_
        refine mg_holder hC hW hin_X8 hl_71 dX8_takes_31 ?_
        refine lv_iload_n hx hb dX8_takes_34 rfl (lv_at hl 2 rfl) ?_
        refine lv_iload_n hx hb dX8_takes_35 rfl (lv_at hl 1 rfl) ?_
        refine ms_holder hC hW (by omega) hS dX8_takes_36 (fun H locs hW hS => ?_)
        obtain ⟨σ4, hσ4⟩ : ∃ z, z = ups σ 18 d 0 p := ⟨_, rfl⟩
        rw [← hσ4] at hW
        refine k_iconst hC dX8_takes_37 ?_
        have hW : WP Dg mcnt ad (mE cA ad (fLease σ p d)) _ := (sw hW (by rw [hσ4, fLease, if_neg (by omega), if_pos (by omega)]))
        exact k_zret hX (by omega) (if_pos (by rw [oLease, if_neg (by omega), if_pos (by omega)])).symm hW hS dX8_takes_38
    · refine k_iconst hC dX8_takes_19 ?_
      have hW : WP Dg mcnt ad (mE cA ad (fLease σ p d)) _ := (sw hW (by rw [fLease, if_pos (by omega)]))
      exact k_zret hX (by omega) (if_pos (by rw [oLease, if_pos (by omega)])).symm hW hS dX8_takes_20
set_option maxHeartbeats 1000000 in
set_option maxRecDepth 100000 in
theorem n_top {l : Launch} {Dg : va_G} {cA : Nat → ClassId} {ad : Nat → Int → Nat} {oc : Nat → Nat} (hI : WI mcnt ad) (σ : St) (p : Int) (hp : 0 ≤ p ∧ p < 6) (h24 : 1 ≤ σ 24 p 0 ∧ σ 24 p 0 ≤ 4) (he : σ 24 p 0 = σ 5 p 0) : GI l yX8_top wsX8_top ({ frames := 0, cells := 0, slots := 0, locals := 0 } : Room) Dg cA mcnt ad oc (mE cA ad σ) [.ref (ad 0 0), .int (zi p)] (4 * p + (σ 5 p 0 - 1)) (mE cA ad σ) := by
  intro sz
  refine g_ent (cc := cX8_top) (maxL := 2) (ret := (some .int)) (by decide) rfl hI (Nat.le_of_ble_eq_true rfl) ?_
  intro pgm env s₀ m₀ bel mth cod hX hW hS hsz ls hl
  subst hsz
  have hC := hX.1
  have hx := hC.1
  have hb := hC.2.1
  have hts := hC.2.2.2.1
  have hl : lv_has ls 2 [(0, .ref (ad 0 0)), (1, .int (zi p))] := hl
  have hin_X8 : ∀ w ∈ wsX80, w ∈ wsX8_top := by decide +kernel
  have hl_44 := hts (.fieldLink RX8 44 "KioskReelModel" "depth" "[I") (by decide +kernel)
  refine k_iconst hC dX8_top_0 ?_
  refine lv_iload_n hx hb dX8_top_1 rfl (lv_at hl 1 rfl) ?_
  refine k_imul hC dX8_top_2 ?_
  refine lv_aload_n hx hb dX8_top_3 rfl (lv_at hl 0 rfl) ?_
  refine mg_depth hC hW hin_X8 hl_44 dX8_top_4 ?_
  refine lv_iload_n hx hb dX8_top_7 rfl (lv_at hl 1 rfl) ?_
  refine ma_depth hC hW (by omega) (v := σ 24 p 0) rfl dX8_top_8 ?_
  refine k_iadd hC dX8_top_9 ?_
  refine k_iconst hC dX8_top_10 ?_
  refine k_isub hC dX8_top_11 ?_
  exact k_iret hX (by omega) hW hS dX8_top_12
end M7A
