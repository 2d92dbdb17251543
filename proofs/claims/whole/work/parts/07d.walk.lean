section M7B
set_option maxHeartbeats 1000000 in
set_option maxRecDepth 100000 in
theorem n_does {l : Launch} {Dg : va_G} {cA : Nat → ClassId} {ad : Nat → Int → Nat} {oc : Nat → Nat} (hI : WI mcnt ad) {N M : Int} (σ : St) (p : Int) (hv : Inv N M σ) (hp : 0 ≤ p ∧ p < 6) (hs : σ 6 p 0 = 1) (ha : σ 11 p 0 = -1) (h8 : 0 ≤ σ 8 p 0) (ht : ¬ atEnd σ p) (hN : N ≤ 1000000) : GI l yX8_does wsX8_does ({ frames := 2, cells := 0, slots := 0, locals := 48 } : Room) Dg cA mcnt ad oc (mE cA ad σ) [.ref (ad 0 0), .int (zi p), .int (zi (4 * p + (σ 5 p 0 - 1)))] (if oDo σ p = 0 then 1 else 0) (mE cA ad (fDo σ p)) := by
  intro sz
  refine g_ent (cc := cX8_does) (maxL := 5) (ret := (some .boolean)) (by decide) rfl hI (Nat.le_of_ble_eq_true rfl) ?_
  intro pgm env s₀ m₀ bel mth cod hX hW hS hsz ls hl
  subst hsz
  have hC := hX.1
  have hx := hC.1
  have hb := hC.2.1
  have hts := hC.2.2.2.1
  have hl : lv_has ls 5 [(0, .ref (ad 0 0)), (1, .int (zi p)), (2, .int (zi (4 * p + (σ 5 p 0 - 1))))] := hl
  have hin_X8 : ∀ w ∈ wsX80, w ∈ wsX8_does := by decide +kernel
  have hl_22 := hts (.fieldLink RX8 22 "KioskReelModel" "pileKind" "[I") (by decide +kernel)
  have hl_25 := hts (.fieldLink RX8 25 "KioskReelModel" "pileNumber" "[I") (by decide +kernel)
  have hl_31 := hts (.fieldLink RX8 31 "KioskReelModel" "pileNext" "[I") (by decide +kernel)
  have hl_44 := hts (.fieldLink RX8 44 "KioskReelModel" "depth" "[I") (by decide +kernel)
  have hl_47 := hts (.fieldLink RX8 47 "KioskReelModel" "at" "[I") (by decide +kernel)
  have hl_50 := hts (.fieldLink RX8 50 "KioskReelModel" "counts" "[I") (by decide +kernel)
  have hl_53 := hts (.fieldLink RX8 53 "KioskReelModel" "ticks" "[I") (by decide +kernel)
  have hl_71 := hts (.fieldLink RX8 71 "KioskReelModel" "holder" "[I") (by decide +kernel)
  have hA := hv.A
  unfold IvA at hA
  obtain ⟨hD1, hD2⟩ := hv.D p hp.1 hp.2
  have hD3 := hD2 hs
  have hS8 := hv.S p hp.1 hp.2
  have hC9 := hv.C p hp.1 hp.2
  have hH := hv.H p (σ 5 p 0 - 1) (by omega) (by omega) (by omega) (by omega)
  obtain ⟨hR1, hR2⟩ := hv.R (8 + 4 * p + (σ 5 p 0 - 1)) (by omega) (by omega)
  have ht2 : σ 4 p (σ 5 p 0 - 1) < σ 3 (8 + 4 * p + (σ 5 p 0 - 1)) 0 := Int.not_le.mp ht
  have hR3 := hR2 (σ 4 p (σ 5 p 0 - 1)) (by omega) (by omega)
  obtain ⟨k, hK⟩ : ∃ z, z = kAt σ p := ⟨_, rfl⟩
  obtain ⟨n, hN1⟩ : ∃ z, z = nAt σ p := ⟨_, rfl⟩
  have hk1 := hR3.2 ht2
  have hk2 := hR3.1
  change okL (kAt σ p) (nAt σ p) at hk1
  change 0 ≤ kAt σ p ∧ kAt σ p < 65536 at hk2
  rw [← hK, ← hN1] at hk1
  rw [← hK] at hk2
  unfold okL at hk1
  obtain ⟨τ, hτ⟩ : ∃ z, z = fStep σ p := ⟨_, rfl⟩
  have hvτ : Inv N M τ := by rw [hτ]; exact Inv_o4 hv (by omega)
  have eτ : ∀ (t : Nat) (i j : Int), t ≠ 4 → τ t i j = σ t i j := fun t i j h => by rw [hτ, fStep, ups_t _ h]
  have e5 := eτ 5 p 0 (by decide)
  have e6 := eτ 6 p 0 (by decide)
  have e8 := eτ 8 p 0 (by decide)
  have e9 := eτ 9 p 0 (by decide)
  have e11 := eτ 11 p 0 (by decide)
  have e24 := eτ 24 p 0 (by decide)
  have e26 := eτ 26 0 0 (by decide)
  refine k_bipush hC dX8_does_0 (by decide) ?_
  refine lv_iload_n hx hb dX8_does_2 rfl (lv_at hl 2 rfl) ?_
  refine k_imul hC dX8_does_3 ?_
  refine lv_aload_n hx hb dX8_does_4 rfl (lv_at hl 0 rfl) ?_
  refine mg_pileNext hC hW hin_X8 hl_31 dX8_does_5 ?_
  refine lv_iload_n hx hb dX8_does_8 rfl (lv_at hl 2 rfl) ?_
  refine ma_pileNext hC hW p (σ 5 p 0 - 1) (by omega) (by omega) (by omega) (v := σ 4 p (σ 5 p 0 - 1)) rfl dX8_does_9 ?_
  refine k_iadd hC dX8_does_10 ?_
  refine lv_istore_n (lv' := [(3, .int (zi ((20 * (4 * p + (σ 5 p 0 - 1))) + (σ 4 p (σ 5 p 0 - 1))))), (0, .ref (ad 0 0)), (1, .int (zi p)), (2, .int (zi (4 * p + (σ 5 p 0 - 1))))]) hx hb dX8_does_11 rfl hl (by decide) rfl (fun ls hl => ?_)
  refine lv_aload_n hx hb dX8_does_12 rfl (lv_at hl 1 rfl) ?_
  refine mg_pileNumber hC hW hin_X8 hl_25 dX8_does_13 ?_
  refine lv_iload_n hx hb dX8_does_16 rfl (lv_at hl 0 rfl) ?_
  refine ma_pileNumber hC hW (4 * p + (σ 5 p 0 - 1)) (σ 4 p (σ 5 p 0 - 1)) (by omega) (by omega) (by omega) (v := n) (by rw [show (8 + (4 * p + (σ 5 p 0 - 1)) : Int) = 8 + 4 * p + (σ 5 p 0 - 1) by omega]; exact hN1.symm) dX8_does_17 ?_
  refine lv_istore (lv' := [(4, .int (zi n)), (3, .int (zi ((20 * (4 * p + (σ 5 p 0 - 1))) + (σ 4 p (σ 5 p 0 - 1))))), (0, .ref (ad 0 0)), (1, .int (zi p)), (2, .int (zi (4 * p + (σ 5 p 0 - 1))))]) hx hb dX8_does_18 hl (by decide) rfl (fun ls hl => ?_)
  refine lv_aload_n hx hb dX8_does_20 rfl (lv_at hl 2 rfl) ?_
  refine mg_pileNext hC hW hin_X8 hl_31 dX8_does_21 ?_
  refine lv_iload_n hx hb dX8_does_24 rfl (lv_at hl 4 rfl) ?_
  refine lv_dup2_11 hx hb dX8_does_25 rfl rfl ?_
  refine ma_pileNext hC hW p (σ 5 p 0 - 1) (by omega) (by omega) (by omega) (v := σ 4 p (σ 5 p 0 - 1)) rfl dX8_does_26 ?_
  refine k_iconst hC dX8_does_27 ?_
  refine k_iadd hC dX8_does_28 ?_
  refine ms_pileNext hC hW p (σ 5 p 0 - 1) (by omega) (by omega) (by omega) hS dX8_does_29 (fun H locs hW hS => ?_)
  obtain ⟨σ1, hσ1⟩ : ∃ z, z = ups σ 4 p (σ 5 p 0 - 1) ((σ 4 p (σ 5 p 0 - 1)) + 1) := ⟨_, rfl⟩
  rw [← hσ1] at hW
  have hW : WP Dg mcnt ad (mE cA ad τ) _ := (sw hW (by rw [hσ1, hτ]; rfl))
  refine lv_aload_n hx hb dX8_does_30 rfl (lv_at hl 2 rfl) ?_
  refine mg_pileKind hC hW hin_X8 hl_22 dX8_does_31 ?_
  refine lv_iload_n hx hb dX8_does_34 rfl (lv_at hl 1 rfl) ?_
  refine ma_pileKind hC hW (4 * p + (σ 5 p 0 - 1)) (σ 4 p (σ 5 p 0 - 1)) (by omega) (by omega) (by omega) (v := k) (by rw [hτ, fStep, ups_t _ (by decide), show (8 + (4 * p + (σ 5 p 0 - 1)) : Int) = 8 + 4 * p + (σ 5 p 0 - 1) by omega]; exact hK.symm) dX8_does_35 ?_
  rcases Classical.em (k = 99) with hsw | hsw
  · refine k_tabIn (tgt := 293) (a' := 99) hC dX8_does_36 hsw (by decide) (by decide) (by decide) rfl (by decide) ?_
    refine lv_aload_n hx hb dX8_does_293 rfl (lv_at hl 2 rfl) ?_
    refine mg_counts hC hW hin_X8 hl_50 dX8_does_294 ?_
    refine lv_iload_n hx hb dX8_does_297 rfl (lv_at hl 3 rfl) ?_
    refine lv_iload hx hb dX8_does_298 (lv_at hl 0 rfl) ?_
    refine ms_counts hC hW (by omega) hS dX8_does_300 (fun H locs hW hS => ?_)
    obtain ⟨σ2, hσ2⟩ : ∃ z, z = ups τ 9 p 0 n := ⟨_, rfl⟩
    rw [← hσ2] at hW
    refine k_iconst hC dX8_does_301 ?_
    have hW : WP Dg mcnt ad (mE cA ad (fDo σ p)) _ := (sw hW (by rw [hσ2, fDo, if_neg ht, ← hK, ← hN1, ← hτ, fObey, if_neg (by omega), if_neg (by omega), if_neg (by omega), if_neg (by omega), if_neg (by omega), if_pos (by omega)]))
    exact k_zret hX (by omega) (if_pos (by rw [oDo, if_neg ht, ← hK, ← hN1, ← hτ, oObey, if_neg (by omega), if_neg (by omega), if_neg (by omega)])).symm hW hS dX8_does_302
  · skip
    rcases Classical.em (k = 100) with hsw | hsw
    · refine k_tabIn (tgt := 169) (a' := 100) hC dX8_does_36 hsw (by decide) (by decide) (by decide) rfl (by decide) ?_
      refine lv_aload_n hx hb dX8_does_169 rfl (lv_at hl 2 rfl) ?_
      refine lv_iload_n hx hb dX8_does_170 rfl (lv_at hl 3 rfl) ?_
      refine lv_iload hx hb dX8_does_171 (lv_at hl 0 rfl) ?_
      refine k_callI (As := [.int (zi p), .int (zi n)]) (rest := []) hX hl.1 (n_takes hI τ p n hvτ hp (by omega) (by omega) (by omega)) (cwV 2 hts gX8_does_X8_takes rfl rfl rfl (by decide +kernel) ⟨Nat.le_of_ble_eq_true rfl, Nat.le_of_ble_eq_true rfl⟩) (rc_M hC hW) hW hS ⟨Nat.zero_le _, Nat.zero_le _⟩ rfl rfl (Nat.le_of_ble_eq_true rfl) dX8_does_173 (fun H locs hW hS _ _ => ?_)
      obtain ⟨σ3, hσ3⟩ : ∃ z, z = fLease τ p n := ⟨_, rfl⟩
      rw [← hσ3] at hW
      have hW : WP Dg mcnt ad (mE cA ad (fDo σ p)) _ := (sw hW (by rw [hσ3, fDo, if_neg ht, ← hK, ← hN1, ← hτ, fObey, if_neg (by omega), if_neg (by omega), if_pos (by omega)]))
      exact k_zret hX (by split <;> omega) (by rw [show oDo σ p = oLease τ p n from (by rw [oDo, if_neg ht, ← hK, ← hN1, ← hτ, oObey, if_neg (by omega), if_neg (by omega), if_pos (by omega)])]) hW hS dX8_does_176
    · skip
      rcases Classical.em (k = 102) with hsw | hsw
      · refine k_tabIn (tgt := 177) (a' := 102) hC dX8_does_36 hsw (by decide) (by decide) (by decide) rfl (by decide) ?_
        refine lv_aload_n hx hb dX8_does_177 rfl (lv_at hl 2 rfl) ?_
        refine mg_holder hC hW hin_X8 hl_71 dX8_does_178 ?_
        refine lv_iload hx hb dX8_does_181 (lv_at hl 0 rfl) ?_
        refine ma_holder hC hW (by omega) (v := τ 18 n 0) rfl dX8_does_183 ?_
        have hO := (hvτ.O.1 n (by omega) (by omega)).1
        refine lv_iload_n hx hb dX8_does_184 rfl (lv_at hl 3 rfl) ?_
        refine k_icmp_ne (tgt := 194) hC dX8_does_185 (by decide) (by omega) (fun c1 => ?_) (fun c1 => ?_)
        · refine k_iconst hC dX8_does_194 ?_
          have hW : WP Dg mcnt ad (mE cA ad (fDo σ p)) _ := (sw hW (by rw [fDo, if_neg ht, ← hK, ← hN1, ← hτ, fObey, if_neg (by omega), if_neg (by omega), if_neg (by omega), if_pos (by omega)]; first | rw [if_pos (by omega)] | rw [if_neg (by omega)]))
          exact k_zret hX (by omega) (if_pos (by rw [oDo, if_neg ht, ← hK, ← hN1, ← hτ, oObey, if_neg (by omega), if_neg (by omega), if_neg (by omega)])).symm hW hS dX8_does_195
        · refine lv_aload_n hx hb dX8_does_188 rfl (lv_at hl 2 rfl) ?_
          refine lv_iload hx hb dX8_does_189 (lv_at hl 0 rfl) ?_
          refine k_callV (As := [.int (zi n)]) (rest := []) hX hl.1 (n_frees hI τ n (by omega) hvτ.W) (cwV 1 hts gX8_does_X8_frees rfl rfl rfl (by decide +kernel) ⟨Nat.le_of_ble_eq_true rfl, Nat.le_of_ble_eq_true rfl⟩) (rc_M hC hW) hW hS ⟨Nat.zero_le _, Nat.zero_le _⟩ rfl rfl (Nat.le_of_ble_eq_true rfl) dX8_does_191 (fun H locs hW hS _ _ => ?_)
          obtain ⟨σ4, hσ4⟩ : ∃ z, z = fPass τ n := ⟨_, rfl⟩
          rw [← hσ4] at hW
          refine k_iconst hC dX8_does_194 ?_
          have hW : WP Dg mcnt ad (mE cA ad (fDo σ p)) _ := (sw hW (by rw [hσ4, fDo, if_neg ht, ← hK, ← hN1, ← hτ, fObey, if_neg (by omega), if_neg (by omega), if_neg (by omega), if_pos (by omega)]; first | rw [if_pos (by omega)] | rw [if_neg (by omega)]))
          exact k_zret hX (by omega) (if_pos (by rw [oDo, if_neg ht, ← hK, ← hN1, ← hτ, oObey, if_neg (by omega), if_neg (by omega), if_neg (by omega)])).symm hW hS dX8_does_195
      · skip
        rcases Classical.em (k = 103) with hsw | hsw
        · refine k_tabIn (tgt := 196) (a' := 103) hC dX8_does_36 hsw (by decide) (by decide) (by decide) rfl (by decide) ?_
          refine lv_aload_n hx hb dX8_does_196 rfl (lv_at hl 2 rfl) ?_
          refine mg_pileNext hC hW hin_X8 hl_31 dX8_does_197 ?_
          refine lv_iload_n hx hb dX8_does_200 rfl (lv_at hl 4 rfl) ?_
          refine lv_iload hx hb dX8_does_201 (lv_at hl 0 rfl) ?_
          refine ms_pileNext hC hW p (σ 5 p 0 - 1) (by omega) (by omega) (by omega) hS dX8_does_203 (fun H locs hW hS => ?_)
          obtain ⟨σ5, hσ5⟩ : ∃ z, z = ups τ 4 p (σ 5 p 0 - 1) n := ⟨_, rfl⟩
          rw [← hσ5] at hW
          refine k_iconst hC dX8_does_204 ?_
          have hW : WP Dg mcnt ad (mE cA ad (fDo σ p)) _ := (sw hW (by rw [hσ5, fDo, if_neg ht, ← hK, ← hN1, ← hτ, fObey, if_neg (by omega), if_neg (by omega), if_neg (by omega), if_neg (by omega), if_neg (by omega), if_neg (by omega)]; rw [fBranch, if_neg (by omega), if_pos (Or.inl (by omega)), e5]))
          exact k_zret hX (by omega) (if_pos (by rw [oDo, if_neg ht, ← hK, ← hN1, ← hτ, oObey, if_neg (by omega), if_neg (by omega), if_neg (by omega)])).symm hW hS dX8_does_205
        · skip
          rcases Classical.em (k = 108) with hsw | hsw
          · refine k_tabIn (tgt := 238) (a' := 108) hC dX8_does_36 hsw (by decide) (by decide) (by decide) rfl (by decide) ?_
            refine lv_aload_n hx hb dX8_does_238 rfl (lv_at hl 2 rfl) ?_
            refine mg_pileNext hC hW hin_X8 hl_31 dX8_does_239 ?_
            refine lv_iload_n hx hb dX8_does_242 rfl (lv_at hl 4 rfl) ?_
            refine lv_aload_n hx hb dX8_does_243 rfl (lv_at hl 2 rfl) ?_
            refine mg_counts hC hW hin_X8 hl_50 dX8_does_244 ?_
            refine lv_iload_n hx hb dX8_does_247 rfl (lv_at hl 3 rfl) ?_
            refine ma_counts hC hW (by omega) (v := τ 9 p 0) rfl dX8_does_248 ?_
            refine k_if_ne (tgt := 257) hC dX8_does_249 (by decide) (by omega) (fun c2 => ?_) (fun c2 => ?_)
            · refine lv_aload_n hx hb dX8_does_257 rfl (lv_at hl 2 rfl) ?_
              refine mg_pileNext hC hW hin_X8 hl_31 dX8_does_258 ?_
              refine lv_iload_n hx hb dX8_does_261 rfl (lv_at hl 4 rfl) ?_
              refine ma_pileNext hC hW p (σ 5 p 0 - 1) (by omega) (by omega) (by omega) (v := τ 4 p (σ 5 p 0 - 1)) rfl dX8_does_262 ?_
              refine ms_pileNext hC hW p (σ 5 p 0 - 1) (by omega) (by omega) (by omega) hS dX8_does_263 (fun H locs hW hS => ?_)
              obtain ⟨σ6, hσ6⟩ : ∃ z, z = ups τ 4 p (σ 5 p 0 - 1) (τ 4 p (σ 5 p 0 - 1)) := ⟨_, rfl⟩
              rw [← hσ6] at hW
              refine lv_aload_n hx hb dX8_does_264 rfl (lv_at hl 2 rfl) ?_
              refine mg_counts hC hW hin_X8 hl_50 dX8_does_265 ?_
              refine lv_iload_n hx hb dX8_does_268 rfl (lv_at hl 3 rfl) ?_
              refine lv_aload_n hx hb dX8_does_269 rfl (lv_at hl 2 rfl) ?_
              refine mg_counts hC hW hin_X8 hl_50 dX8_does_270 ?_
              refine lv_iload_n hx hb dX8_does_273 rfl (lv_at hl 3 rfl) ?_
              refine ma_counts hC hW (by omega) (v := τ 9 p 0) (by rw [hσ6, ups_t _ (by decide)]) dX8_does_274 ?_
              refine k_if_ne (tgt := 282) hC dX8_does_275 (by decide) (by omega) (fun c3 => ?_) (fun c3 => ?_)
              · refine lv_aload_n hx hb dX8_does_282 rfl (lv_at hl 2 rfl) ?_
                refine mg_counts hC hW hin_X8 hl_50 dX8_does_283 ?_
                refine lv_iload_n hx hb dX8_does_286 rfl (lv_at hl 3 rfl) ?_
                refine ma_counts hC hW (by omega) (v := τ 9 p 0) (by rw [hσ6, ups_t _ (by decide)]) dX8_does_287 ?_
                refine k_iconst hC dX8_does_288 ?_
                refine k_isub hC dX8_does_289 ?_
                refine ms_counts hC hW (by omega) hS dX8_does_290 (fun H locs hW hS => ?_)
                obtain ⟨σ7, hσ7⟩ : ∃ z, z = ups σ6 9 p 0 ((τ 9 p 0) - 1) := ⟨_, rfl⟩
                rw [← hσ7] at hW
                refine k_iconst hC dX8_does_291 ?_
                have hW : WP Dg mcnt ad (mE cA ad (fDo σ p)) _ := (by first | exact sw hW (by exfalso; omega) | exact sw hW (by rw [hσ7, hσ6, ups_id _ 4 _ _ rfl, fDo, if_neg ht, ← hK, ← hN1, ← hτ, fObey, if_neg (by omega), if_neg (by omega), if_neg (by omega), if_neg (by omega), if_neg (by omega), if_neg (by omega), fBranch, if_pos (by omega)]) | exact sw hW (by rw [hσ7, hσ6, ups_id _ 9 _ _ (by rw [ups_t _ (by decide)]; omega), fDo, if_neg ht, ← hK, ← hN1, ← hτ, fObey, if_neg (by omega), if_neg (by omega), if_neg (by omega), if_neg (by omega), if_neg (by omega), if_neg (by omega), fBranch, if_neg (by omega), if_pos (Or.inl (by omega)), e5]))
                exact k_zret hX (by omega) (if_pos (by rw [oDo, if_neg ht, ← hK, ← hN1, ← hτ, oObey, if_neg (by omega), if_neg (by omega), if_neg (by omega)])).symm hW hS dX8_does_292
              · refine k_iconst hC dX8_does_278 ?_
                refine lv_goto (tgt := 290) hx hb dX8_does_279 (by decide) ?_
                refine ms_counts hC hW (by omega) hS dX8_does_290 (fun H locs hW hS => ?_)
                obtain ⟨σ8, hσ8⟩ : ∃ z, z = ups σ6 9 p 0 0 := ⟨_, rfl⟩
                rw [← hσ8] at hW
                refine k_iconst hC dX8_does_291 ?_
                have hW : WP Dg mcnt ad (mE cA ad (fDo σ p)) _ := (by first | exact sw hW (by exfalso; omega) | exact sw hW (by rw [hσ8, hσ6, ups_id _ 4 _ _ rfl, fDo, if_neg ht, ← hK, ← hN1, ← hτ, fObey, if_neg (by omega), if_neg (by omega), if_neg (by omega), if_neg (by omega), if_neg (by omega), if_neg (by omega), fBranch, if_pos (by omega)]) | exact sw hW (by rw [hσ8, hσ6, ups_id _ 9 _ _ (by rw [ups_t _ (by decide)]; omega), fDo, if_neg ht, ← hK, ← hN1, ← hτ, fObey, if_neg (by omega), if_neg (by omega), if_neg (by omega), if_neg (by omega), if_neg (by omega), if_neg (by omega), fBranch, if_neg (by omega), if_pos (Or.inl (by omega)), e5]))
                exact k_zret hX (by omega) (if_pos (by rw [oDo, if_neg ht, ← hK, ← hN1, ← hτ, oObey, if_neg (by omega), if_neg (by omega), if_neg (by omega)])).symm hW hS dX8_does_292
            · refine lv_iload hx hb dX8_does_252 (lv_at hl 0 rfl) ?_
              refine lv_goto (tgt := 263) hx hb dX8_does_254 (by decide) ?_
              refine ms_pileNext hC hW p (σ 5 p 0 - 1) (by omega) (by omega) (by omega) hS dX8_does_263 (fun H locs hW hS => ?_)
              obtain ⟨σ9, hσ9⟩ : ∃ z, z = ups τ 4 p (σ 5 p 0 - 1) n := ⟨_, rfl⟩
              rw [← hσ9] at hW
              refine lv_aload_n hx hb dX8_does_264 rfl (lv_at hl 2 rfl) ?_
              refine mg_counts hC hW hin_X8 hl_50 dX8_does_265 ?_
              refine lv_iload_n hx hb dX8_does_268 rfl (lv_at hl 3 rfl) ?_
              refine lv_aload_n hx hb dX8_does_269 rfl (lv_at hl 2 rfl) ?_
              refine mg_counts hC hW hin_X8 hl_50 dX8_does_270 ?_
              refine lv_iload_n hx hb dX8_does_273 rfl (lv_at hl 3 rfl) ?_
              refine ma_counts hC hW (by omega) (v := τ 9 p 0) (by rw [hσ9, ups_t _ (by decide)]) dX8_does_274 ?_
              refine k_if_ne (tgt := 282) hC dX8_does_275 (by decide) (by omega) (fun c4 => ?_) (fun c4 => ?_)
              · refine lv_aload_n hx hb dX8_does_282 rfl (lv_at hl 2 rfl) ?_
                refine mg_counts hC hW hin_X8 hl_50 dX8_does_283 ?_
                refine lv_iload_n hx hb dX8_does_286 rfl (lv_at hl 3 rfl) ?_
                refine ma_counts hC hW (by omega) (v := τ 9 p 0) (by rw [hσ9, ups_t _ (by decide)]) dX8_does_287 ?_
                refine k_iconst hC dX8_does_288 ?_
                refine k_isub hC dX8_does_289 ?_
                refine ms_counts hC hW (by omega) hS dX8_does_290 (fun H locs hW hS => ?_)
                obtain ⟨σ10, hσ10⟩ : ∃ z, z = ups σ9 9 p 0 ((τ 9 p 0) - 1) := ⟨_, rfl⟩
                rw [← hσ10] at hW
                refine k_iconst hC dX8_does_291 ?_
                have hW : WP Dg mcnt ad (mE cA ad (fDo σ p)) _ := (by first | exact sw hW (by exfalso; omega) | exact sw hW (by rw [hσ10, hσ9, ups_id _ 4 _ _ rfl, fDo, if_neg ht, ← hK, ← hN1, ← hτ, fObey, if_neg (by omega), if_neg (by omega), if_neg (by omega), if_neg (by omega), if_neg (by omega), if_neg (by omega), fBranch, if_pos (by omega)]) | exact sw hW (by rw [hσ10, hσ9, ups_id _ 9 _ _ (by rw [ups_t _ (by decide)]; omega), fDo, if_neg ht, ← hK, ← hN1, ← hτ, fObey, if_neg (by omega), if_neg (by omega), if_neg (by omega), if_neg (by omega), if_neg (by omega), if_neg (by omega), fBranch, if_neg (by omega), if_pos (Or.inl (by omega)), e5]))
                exact k_zret hX (by omega) (if_pos (by rw [oDo, if_neg ht, ← hK, ← hN1, ← hτ, oObey, if_neg (by omega), if_neg (by omega), if_neg (by omega)])).symm hW hS dX8_does_292
              · refine k_iconst hC dX8_does_278 ?_
                refine lv_goto (tgt := 290) hx hb dX8_does_279 (by decide) ?_
                refine ms_counts hC hW (by omega) hS dX8_does_290 (fun H locs hW hS => ?_)
                obtain ⟨σ11, hσ11⟩ : ∃ z, z = ups σ9 9 p 0 0 := ⟨_, rfl⟩
                rw [← hσ11] at hW
                refine k_iconst hC dX8_does_291 ?_
                have hW : WP Dg mcnt ad (mE cA ad (fDo σ p)) _ := (by first | exact sw hW (by exfalso; omega) | exact sw hW (by rw [hσ11, hσ9, ups_id _ 4 _ _ rfl, fDo, if_neg ht, ← hK, ← hN1, ← hτ, fObey, if_neg (by omega), if_neg (by omega), if_neg (by omega), if_neg (by omega), if_neg (by omega), if_neg (by omega), fBranch, if_pos (by omega)]) | exact sw hW (by rw [hσ11, hσ9, ups_id _ 9 _ _ (by rw [ups_t _ (by decide)]; omega), fDo, if_neg ht, ← hK, ← hN1, ← hτ, fObey, if_neg (by omega), if_neg (by omega), if_neg (by omega), if_neg (by omega), if_neg (by omega), if_neg (by omega), fBranch, if_neg (by omega), if_pos (Or.inl (by omega)), e5]))
                exact k_zret hX (by omega) (if_pos (by rw [oDo, if_neg ht, ← hK, ← hN1, ← hτ, oObey, if_neg (by omega), if_neg (by omega), if_neg (by omega)])).symm hW hS dX8_does_292
          · skip
            rcases Classical.em (k = 112) with hsw | hsw
            · refine k_tabIn (tgt := 303) (a' := 112) hC dX8_does_36 hsw (by decide) (by decide) (by decide) rfl (by decide) ?_
              refine lv_aload_n hx hb dX8_does_303 rfl (lv_at hl 2 rfl) ?_
              refine lv_iload hx hb dX8_does_304 (lv_at hl 0 rfl) ?_
              refine k_callI (As := [.int (zi n)]) (rest := []) hX hl.1 (n_isList hI τ n (by omega) (by omega)) (cwV 1 hts gX8_does_X8_isList rfl rfl rfl (by decide +kernel) ⟨Nat.le_of_ble_eq_true rfl, Nat.le_of_ble_eq_true rfl⟩) (rc_M hC hW) hW hS ⟨Nat.zero_le _, Nat.zero_le _⟩ rfl rfl (Nat.le_of_ble_eq_true rfl) dX8_does_306 (fun H locs hW hS _ _ => ?_)
              refine k_if_eq (tgt := 341) hC dX8_does_309 (by decide) (by omega) (fun c5 => ?_) (fun c5 => ?_)
              · refine k_iconst hC dX8_does_341 ?_
                have hW : WP Dg mcnt ad (mE cA ad (fDo σ p)) _ := (by first | exact sw hW (by rw [fDo, if_neg ht, ← hK, ← hN1, ← hτ, fObey, if_neg (by omega), if_neg (by omega), if_neg (by omega), if_neg (by omega), if_pos (by omega), if_neg (by omega)]) | exact sw hW (by rw [fDo, if_neg ht, ← hK, ← hN1, ← hτ, fObey, if_neg (by omega), if_neg (by omega), if_neg (by omega), if_neg (by omega), if_pos (by omega), if_pos (by omega), fPutG, if_neg (by omega)]) | (rw [fDo, if_neg ht, ← hK, ← hN1, ← hτ, fObey, if_neg (by omega), if_neg (by omega), if_neg (by omega), if_neg (by omega), if_pos (by omega), if_pos (by omega), fPutG, if_pos (by omega)]; exact putM_end (h := σ 5 p 0) (sw hW (by rw [show τ 24 p 0 = σ 5 p 0 by omega])) (by omega)))
                exact k_zret hX (by omega) (if_pos (by rw [oDo, if_neg ht, ← hK, ← hN1, ← hτ, oObey, if_neg (by omega), if_neg (by omega), if_neg (by omega)])).symm hW hS dX8_does_342
              · refine lv_aload_n hx hb dX8_does_312 rfl (lv_at hl 2 rfl) ?_
                refine mg_depth hC hW hin_X8 hl_44 dX8_does_313 ?_
                refine lv_iload_n hx hb dX8_does_316 rfl (lv_at hl 3 rfl) ?_
                refine ma_depth hC hW (by omega) (v := τ 24 p 0) rfl dX8_does_317 ?_
                refine k_iconst hC dX8_does_318 ?_
                refine k_icmp_ge (tgt := 341) hC dX8_does_319 (by decide) (by omega) (fun c6 => ?_) (fun c6 => ?_)
                · refine k_iconst hC dX8_does_341 ?_
                  have hW : WP Dg mcnt ad (mE cA ad (fDo σ p)) _ := (by first | exact sw hW (by rw [fDo, if_neg ht, ← hK, ← hN1, ← hτ, fObey, if_neg (by omega), if_neg (by omega), if_neg (by omega), if_neg (by omega), if_pos (by omega), if_neg (by omega)]) | exact sw hW (by rw [fDo, if_neg ht, ← hK, ← hN1, ← hτ, fObey, if_neg (by omega), if_neg (by omega), if_neg (by omega), if_neg (by omega), if_pos (by omega), if_pos (by omega), fPutG, if_neg (by omega)]) | (rw [fDo, if_neg ht, ← hK, ← hN1, ← hτ, fObey, if_neg (by omega), if_neg (by omega), if_neg (by omega), if_neg (by omega), if_pos (by omega), if_pos (by omega), fPutG, if_pos (by omega)]; exact putM_end (h := σ 5 p 0) (sw hW (by rw [show τ 24 p 0 = σ 5 p 0 by omega])) (by omega)))
                  exact k_zret hX (by omega) (if_pos (by rw [oDo, if_neg ht, ← hK, ← hN1, ← hτ, oObey, if_neg (by omega), if_neg (by omega), if_neg (by omega)])).symm hW hS dX8_does_342
                · refine lv_aload_n hx hb dX8_does_322 rfl (lv_at hl 2 rfl) ?_
                  refine mg_depth hC hW hin_X8 hl_44 dX8_does_323 ?_
                  refine lv_iload_n hx hb dX8_does_326 rfl (lv_at hl 3 rfl) ?_
                  refine lv_dup2_11 hx hb dX8_does_327 rfl rfl ?_
                  refine ma_depth hC hW (by omega) (v := τ 24 p 0) rfl dX8_does_328 ?_
                  refine k_iconst hC dX8_does_329 ?_
                  refine k_iadd hC dX8_does_330 ?_
                  refine ms_depth hC hW (by omega) hS dX8_does_331 (fun H locs hW hS => ?_)
                  obtain ⟨σ12, hσ12⟩ : ∃ z, z = ups τ 24 p 0 ((τ 24 p 0) + 1) := ⟨_, rfl⟩
                  rw [← hσ12] at hW
                  refine lv_aload_n hx hb dX8_does_332 rfl (lv_at hl 2 rfl) ?_
                  refine lv_iload hx hb dX8_does_333 (lv_at hl 0 rfl) ?_
                  refine lv_iload_n hx hb dX8_does_335 rfl (lv_at hl 4 rfl) ?_
                  refine k_iconst hC dX8_does_336 ?_
                  refine k_iadd hC dX8_does_337 ?_
                  refine k_top0 (show ((4 * p + (σ 5 p 0 - 1)) + 1 : Int) = 4 * p + σ 5 p 0 from by omega) ?_
                  refine k_callV (As := [.int (zi n), .int (zi (4 * p + σ 5 p 0))]) (rest := []) hX hl.1 (n_copies hI σ12 n p (σ 5 p 0) (by omega) hp (by omega) (by have q := (hvτ.R n (by omega) (by omega)).1; rw [hσ12, ups_t _ (by decide)]; exact q)) (cwV 2 hts gX8_does_X8_copies rfl rfl rfl (by decide +kernel) ⟨Nat.le_of_ble_eq_true rfl, Nat.le_of_ble_eq_true rfl⟩) (rc_M hC hW) hW hS ⟨Nat.zero_le _, Nat.zero_le _⟩ rfl rfl (Nat.le_of_ble_eq_true rfl) dX8_does_338 (fun H locs hW hS _ _ => ?_)
                  obtain ⟨σ13, hσ13⟩ : ∃ z, z = ups (ups (fCopy σ12 (8 + (4 * p + (σ 5 p 0))) n) 4 p (σ 5 p 0) 0) 7 p (σ 5 p 0) n := ⟨_, rfl⟩
                  rw [← hσ13] at hW
                  refine k_iconst hC dX8_does_341 ?_
                  have hW : WP Dg mcnt ad (mE cA ad (fDo σ p)) _ := (by first | exact sw hW (by rw [hσ13, hσ12, fDo, if_neg ht, ← hK, ← hN1, ← hτ, fObey, if_neg (by omega), if_neg (by omega), if_neg (by omega), if_neg (by omega), if_pos (by omega), if_neg (by omega)]) | exact sw hW (by rw [hσ13, hσ12, fDo, if_neg ht, ← hK, ← hN1, ← hτ, fObey, if_neg (by omega), if_neg (by omega), if_neg (by omega), if_neg (by omega), if_pos (by omega), if_pos (by omega), fPutG, if_neg (by omega)]) | (rw [fDo, if_neg ht, ← hK, ← hN1, ← hτ, fObey, if_neg (by omega), if_neg (by omega), if_neg (by omega), if_neg (by omega), if_pos (by omega), if_pos (by omega), fPutG, if_pos (by omega)]; exact putM_end (h := σ 5 p 0) (sw hW (by rw [hσ13, hσ12, show τ 24 p 0 = σ 5 p 0 by omega])) (by omega)))
                  exact k_zret hX (by omega) (if_pos (by rw [oDo, if_neg ht, ← hK, ← hN1, ← hτ, oObey, if_neg (by omega), if_neg (by omega), if_neg (by omega)])).symm hW hS dX8_does_342
            · skip
              rcases Classical.em (k = 115) with hsw | hsw
              · refine k_tabIn (tgt := 136) (a' := 115) hC dX8_does_36 hsw (by decide) (by decide) (by decide) rfl (by decide) ?_
                refine lv_aload_n hx hb dX8_does_136 rfl (lv_at hl 2 rfl) ?_
                refine lv_aload_n hx hb dX8_does_137 rfl (lv_at hl 2 rfl) ?_
                refine mg_at hC hW hin_X8 hl_47 dX8_does_138 ?_
                refine lv_iload_n hx hb dX8_does_141 rfl (lv_at hl 3 rfl) ?_
                refine ma_at hC hW (by omega) (v := τ 8 p 0) rfl dX8_does_142 ?_
                refine lv_iload hx hb dX8_does_143 (lv_at hl 0 rfl) ?_
                refine k_callI (As := [.int (zi (τ 8 p 0)), .int (zi n)]) (rest := []) hX hl.1 (n_shows hI τ (τ 8 p 0) n hvτ (by omega) (by omega) hN) (cwV 2 hts gX8_does_X8_shows rfl rfl rfl (by decide +kernel) ⟨Nat.le_of_ble_eq_true rfl, Nat.le_of_ble_eq_true rfl⟩) (rc_M hC hW) hW hS ⟨Nat.zero_le _, Nat.zero_le _⟩ rfl rfl (Nat.le_of_ble_eq_true rfl) dX8_does_145 (fun H locs hW hS _ _ => ?_)
                obtain ⟨σ14, hσ14⟩ : ∃ z, z = fShow τ (τ 8 p 0) n := ⟨_, rfl⟩
                rw [← hσ14] at hW
                obtain ⟨r, hr⟩ : ∃ z : Int, z = (if oShow τ (τ 8 p 0) n = 1 then 1 else 0) := ⟨_, rfl⟩
                rw [← hr]
                have o1 := oShow_le τ (τ 8 p 0) n
                refine k_if_ne (tgt := 155) hC dX8_does_148 (by decide) (by omega) (fun c7 => ?_) (fun c7 => ?_)
                · refine k_iconst hC dX8_does_155 ?_
                  have hW : WP Dg mcnt ad (mE cA ad (fDo σ p)) _ := (sw hW (by rw [hσ14, fDo, if_neg ht, ← hK, ← hN1, ← hτ, fObey, if_pos (by omega)]))
                  exact k_zret hX (by omega) (by rw [show oDo σ p = oShow τ (τ 8 p 0) n from (by rw [oDo, if_neg ht, ← hK, ← hN1, ← hτ, oObey, if_pos (by omega)])]; split <;> omega) hW hS dX8_does_156
                · refine k_iconst hC dX8_does_151 ?_
                  refine lv_goto (tgt := 156) hx hb dX8_does_152 (by decide) ?_
                  have hW : WP Dg mcnt ad (mE cA ad (fDo σ p)) _ := (sw hW (by rw [hσ14, fDo, if_neg ht, ← hK, ← hN1, ← hτ, fObey, if_pos (by omega)]))
                  exact k_zret hX (by omega) (by rw [show oDo σ p = oShow τ (τ 8 p 0) n from (by rw [oDo, if_neg ht, ← hK, ← hN1, ← hτ, oObey, if_pos (by omega)])]; split <;> omega) hW hS dX8_does_156
              · skip
                rcases Classical.em (k = 118) with hsw | hsw
                · refine k_tabIn (tgt := 206) (a' := 118) hC dX8_does_36 hsw (by decide) (by decide) (by decide) rfl (by decide) ?_
                  refine lv_aload_n hx hb dX8_does_206 rfl (lv_at hl 2 rfl) ?_
                  refine mg_pileNext hC hW hin_X8 hl_31 dX8_does_207 ?_
                  refine lv_iload_n hx hb dX8_does_210 rfl (lv_at hl 4 rfl) ?_
                  refine lv_aload_n hx hb dX8_does_211 rfl (lv_at hl 2 rfl) ?_
                  refine lv_aload_n hx hb dX8_does_212 rfl (lv_at hl 2 rfl) ?_
                  refine mg_at hC hW hin_X8 hl_47 dX8_does_213 ?_
                  refine lv_iload_n hx hb dX8_does_216 rfl (lv_at hl 3 rfl) ?_
                  refine ma_at hC hW (by omega) (v := τ 8 p 0) rfl dX8_does_217 ?_
                  have e28 := eτ 28 0 0 (by decide)
                  refine k_callI (As := [.int (zi (τ 8 p 0))]) (rest := [.int (zi (4 * p + (σ 5 p 0 - 1))), .ref (ad 8 0)]) hX hl.1 (n_present hI τ (τ 8 p 0) hvτ (by omega)) (cwV 1 hts gX8_does_X8_present rfl rfl rfl (by decide +kernel) ⟨Nat.le_of_ble_eq_true rfl, Nat.le_of_ble_eq_true rfl⟩) (rc_M hC hW) hW hS ⟨Nat.zero_le _, Nat.zero_le _⟩ rfl rfl (Nat.le_of_ble_eq_true rfl) dX8_does_218 (fun H locs hW hS _ _ => ?_)
                  have hV0 := cN_rng (fun v => decide (τ 22 v 0 = τ 8 p 0)) (i := τ 28 0 0) (by omega)
                  refine k_if_le (tgt := 233) hC dX8_does_221 (by decide) (by omega) (fun c8 => ?_) (fun c8 => ?_)
                  · refine lv_iload hx hb dX8_does_233 (lv_at hl 0 rfl) ?_
                    refine ms_pileNext hC hW p (σ 5 p 0 - 1) (by omega) (by omega) (by omega) hS dX8_does_235 (fun H locs hW hS => ?_)
                    obtain ⟨σ15, hσ15⟩ : ∃ z, z = ups τ 4 p (σ 5 p 0 - 1) n := ⟨_, rfl⟩
                    rw [← hσ15] at hW
                    refine k_iconst hC dX8_does_236 ?_
                    have hW : WP Dg mcnt ad (mE cA ad (fDo σ p)) _ := (by first | exact sw hW (by rw [hσ15, ups_id _ _ _ _ rfl, fDo, if_neg ht, ← hK, ← hN1, ← hτ, fObey, if_neg (by omega), if_neg (by omega), if_neg (by omega), if_neg (by omega), if_neg (by omega), if_neg (by omega), fBranch, if_neg (by omega), if_neg (by omega)]) | exact sw hW (by rw [hσ15, fDo, if_neg ht, ← hK, ← hN1, ← hτ, fObey, if_neg (by omega), if_neg (by omega), if_neg (by omega), if_neg (by omega), if_neg (by omega), if_neg (by omega), fBranch, if_neg (by omega), if_pos (by omega), e5]))
                    exact k_zret hX (by omega) (if_pos (by rw [oDo, if_neg ht, ← hK, ← hN1, ← hτ, oObey, if_neg (by omega), if_neg (by omega), if_neg (by omega)])).symm hW hS dX8_does_237
                  · refine lv_aload_n hx hb dX8_does_224 rfl (lv_at hl 2 rfl) ?_
                    refine mg_pileNext hC hW hin_X8 hl_31 dX8_does_225 ?_
                    refine lv_iload_n hx hb dX8_does_228 rfl (lv_at hl 4 rfl) ?_
                    refine ma_pileNext hC hW p (σ 5 p 0 - 1) (by omega) (by omega) (by omega) (v := τ 4 p (σ 5 p 0 - 1)) rfl dX8_does_229 ?_
                    refine lv_goto (tgt := 235) hx hb dX8_does_230 (by decide) ?_
                    refine ms_pileNext hC hW p (σ 5 p 0 - 1) (by omega) (by omega) (by omega) hS dX8_does_235 (fun H locs hW hS => ?_)
                    obtain ⟨σ16, hσ16⟩ : ∃ z, z = ups τ 4 p (σ 5 p 0 - 1) (τ 4 p (σ 5 p 0 - 1)) := ⟨_, rfl⟩
                    rw [← hσ16] at hW
                    refine k_iconst hC dX8_does_236 ?_
                    have hW : WP Dg mcnt ad (mE cA ad (fDo σ p)) _ := (by first | exact sw hW (by rw [hσ16, ups_id _ _ _ _ rfl, fDo, if_neg ht, ← hK, ← hN1, ← hτ, fObey, if_neg (by omega), if_neg (by omega), if_neg (by omega), if_neg (by omega), if_neg (by omega), if_neg (by omega), fBranch, if_neg (by omega), if_neg (by omega)]) | exact sw hW (by rw [hσ16, fDo, if_neg ht, ← hK, ← hN1, ← hτ, fObey, if_neg (by omega), if_neg (by omega), if_neg (by omega), if_neg (by omega), if_neg (by omega), if_neg (by omega), fBranch, if_neg (by omega), if_pos (by omega), e5]))
                    exact k_zret hX (by omega) (if_pos (by rw [oDo, if_neg ht, ← hK, ← hN1, ← hτ, oObey, if_neg (by omega), if_neg (by omega), if_neg (by omega)])).symm hW hS dX8_does_237
                · skip
                  rcases Classical.em (k = 119) with hsw | hsw
                  · refine k_tabIn (tgt := 157) (a' := 119) hC dX8_does_36 hsw (by decide) (by decide) (by decide) rfl (by decide) ?_
                    refine lv_aload_n hx hb dX8_does_157 rfl (lv_at hl 2 rfl) ?_
                    refine mg_ticks hC hW hin_X8 hl_53 dX8_does_158 ?_
                    refine lv_iload_n hx hb dX8_does_161 rfl (lv_at hl 3 rfl) ?_
                    refine lv_iload hx hb dX8_does_162 (lv_at hl 0 rfl) ?_
                    refine k_iconst hC dX8_does_164 ?_
                    refine k_isub hC dX8_does_165 ?_
                    refine ms_ticks hC hW (by omega) hS dX8_does_166 (fun H locs hW hS => ?_)
                    obtain ⟨σ17, hσ17⟩ : ∃ z, z = ups τ 10 p 0 (n - 1) := ⟨_, rfl⟩
                    rw [← hσ17] at hW
                    refine k_iconst hC dX8_does_167 ?_
                    have hW : WP Dg mcnt ad (mE cA ad (fDo σ p)) _ := (sw hW (by rw [hσ17, fDo, if_neg ht, ← hK, ← hN1, ← hτ, fObey, if_neg (by omega), if_pos (by omega)]))
                    exact k_zret hX (by omega) (if_neg (by rw [oDo, if_neg ht, ← hK, ← hN1, ← hτ, oObey, if_neg (by omega), if_pos (by omega)]; decide)).symm hW hS dX8_does_168
                  · skip
                    exfalso; omega
end M7B
