section M13B
set_option maxHeartbeats 2000000 in
set_option maxRecDepth 100000 in
theorem w_list {l : Launch} {Dg : va_G} {cA : Nat → ClassId} {cL cD : ClassId} {ad : Nat → Int → Nat} {oc : Nat → Nat} {ao aD : Nat} (hI : WI ccnt ad) (hWN : WN ad ao aD) (hfl : l.stackTraces = false) {N M : Int} (σ : St) (hv : Inv N M σ) (hN : N ≤ 1000000) (hM : 0 ≤ M ∧ M ≤ 1000000) (o : Int64) (d9 : UInt64) : GW l yL_list wsL_list ({ frames := 7, cells := 1, slots := 6, locals := 110 } : Room) Dg cA cL cD ad oc ao aD (cE cA ad σ) o d9 [.ref (ad 0 0), .ref ao] (cd_list σ) (cE cA ad (stp (cd_list σ) (ups σ 26 0 0 (σ 26 0 0 + 1)) σ)) (bx (cd_list σ) (zi (σ 26 0 0)).toInt64 o) d9 := by
  have hA := hv.A
  unfold IvA at hA
  by_cases c0 : σ 26 0 0 < 8
  · have e : cd_list σ = 0 := by unfold cd_list; rw [if_pos c0]
    rw [e, stp_0, bx_0]
    intro sz
    refine w_ent (cc := cL_list) (maxL := 3) (ret := (some .int)) (hh := [(0, 8, 11, 13)]) (by decide) rfl hI (Nat.le_of_ble_eq_true rfl) ?_
    intro pgm env s₀ m₀ bel mth cod hX htab hK2 hNc hW hO hD hS hsz ls hl
    subst hsz
    have hC := hX.1
    have hx := hC.1
    have hb := hC.2.1
    have hts := hC.2.2.2.1
    have hl : lv_has ls 3 [(0, .ref (ad 0 0)), (1, .ref ao)] := hl
    refine lv_aload_n hx hb dL_list_0 rfl (lv_at hl 1 rfl) ?_
    refine k_iconst hC dL_list_1 ?_
    refine lv_aload_n hx hb dL_list_2 rfl (lv_at hl 0 rfl) ?_
    refine k_callI (As := []) (rest := [.int (zi 0), .ref ao]) hX hl.1 (m_list hI σ (by omega)) (cwV 0 hts gL_list_X7_list rfl rfl rfl (by decide +kernel) ⟨Nat.le_of_ble_eq_true rfl, Nat.le_of_ble_eq_true rfl⟩) (rc_KR hC hW) hW hS ⟨Nat.zero_le _, Nat.zero_le _⟩ rfl rfl (Nat.le_of_ble_eq_true rfl) dL_list_3 (fun H locs hW hS hz hk => ?_)
    have hO := wo_kept (fun t i x y => (hWN.2 t i x y).1) hO hk
    have hD := wo_kept (fun t i x y => (hWN.2 t i x y).2) hD hk
    refine lv_i2l hx hb dL_list_6 rfl ?_
    refine w_last hC hK2 hWN (Or.inl rfl) hW hO hD hS dL_list_7 (fun H locs hW hO hD hS => ?_)
    refine lv_goto (tgt := 14) hx hb dL_list_8 (by decide) ?_
    refine k_iconst hC dL_list_14 ?_
    exact w_ret hX hW hO hD hS (Nat.zero_le _) (Nat.zero_le _) dL_list_15
  · have e : cd_list σ = 1 := by unfold cd_list; rw [if_neg c0]
    rw [e, stp_1 (by decide), bx_1 (by decide)]
    intro sz
    refine w_ent (cc := cL_list) (maxL := 3) (ret := (some .int)) (hh := [(0, 8, 11, 13)]) (by decide) rfl hI (Nat.le_of_ble_eq_true rfl) ?_
    intro pgm env s₀ m₀ bel mth cod hX htab hK2 hNc hW hO hD hS hsz ls hl
    subst hsz
    have hC := hX.1
    have hx := hC.1
    have hb := hC.2.1
    have hts := hC.2.2.2.1
    have hl : lv_has ls 3 [(0, .ref (ad 0 0)), (1, .ref ao)] := hl
    refine lv_aload_n hx hb dL_list_0 rfl (lv_at hl 1 rfl) ?_
    refine k_iconst hC dL_list_1 ?_
    refine lv_aload_n hx hb dL_list_2 rfl (lv_at hl 0 rfl) ?_
    have hl_13 := hts (.classLink RL 13 "java/lang/IllegalStateException") (by decide +kernel)
    refine w_caught (rest := [.int (zi 0), .ref ao]) (As := []) (name := "java/lang/IllegalStateException") [] ⟨0, 8, 11, 13⟩ [] (tgt := 11) hX htab (fun _ h => absurd h List.not_mem_nil) (by decide) (by decide) hl_13 (by decide) rfl hl.1 (m_list_s hI hfl σ (by omega)) (cwV 0 hts gL_list_X7_list rfl rfl rfl (by decide +kernel) ⟨Nat.le_of_ble_eq_true rfl, Nat.le_of_ble_eq_true rfl⟩) (rc_KR hC hW) hW hS ⟨Nat.le_of_ble_eq_true rfl, Nat.le_of_ble_eq_true rfl⟩ rfl rfl (Nat.le_of_ble_eq_true rfl) dL_list_3 (fun H locs q hW hS hz hk => ?_)
    have hO := wo_kept (fun t i x y => (hWN.2 t i x y).1) hO hk
    have hD := wo_kept (fun t i x y => (hWN.2 t i x y).2) hD hk
    refine lv_astore_n (lv' := [(2, .ref q), (0, .ref (ad 0 0)), (1, .ref ao)]) hx hb dL_list_11 rfl hl (by decide) rfl (fun ls hl => ?_)
    refine k_iconst hC dL_list_12 ?_
    have hW := gh (u := 31) (i := 0) (j := 0) (v := 1) (fun _ _ => rfl) hW
    exact w_ret hX hW hO hD hS (Nat.le_refl _) (Nat.le_refl _) dL_list_13
set_option maxHeartbeats 2000000 in
set_option maxRecDepth 100000 in
theorem w_line {l : Launch} {Dg : va_G} {cA : Nat → ClassId} {cL cD : ClassId} {ad : Nat → Int → Nat} {oc : Nat → Nat} {ao aD : Nat} (hI : WI ccnt ad) (hWN : WN ad ao aD) (hfl : l.stackTraces = false) {N M : Int} (σ : St) (a place k n : Int) (hv : Inv N M σ) (hN : N ≤ 1000000) (hM : 0 ≤ M ∧ M ≤ 1000000) (hr_a : -2147483648 ≤ a ∧ a < 2147483648) (hr_place : -2147483648 ≤ place ∧ place < 2147483648) (hr_k : 0 ≤ k ∧ k < 65536) (hr_n : -2147483648 ≤ n ∧ n < 2147483648) (o : Int64) (d9 : UInt64) : GW l yL_line wsL_line ({ frames := 8, cells := 1, slots := 6, locals := 136 } : Room) Dg cA cL cD ad oc ao aD (cE cA ad σ) o d9 [.ref (ad 0 0), .int (zi a), .int (zi place), .int (zi k), .int (zi n), .ref ao] (cd_line σ a place k n) (cE cA ad (stp (cd_line σ a place k n) (fIns σ a place k n) σ)) (bx (cd_line σ a place k n) (zi (σ 3 a 0 + 1)).toInt64 o) d9 := by
  have hA := hv.A
  unfold IvA at hA
  by_cases c0 : 0 ≤ a ∧ a < σ 26 0 0
  · have r1 := (hv.R a (by omega) (by omega)).1
    by_cases c1 : 0 ≤ place ∧ place ≤ σ 3 a 0
    · by_cases c2 : mostN k ≠ -1
      · by_cases c3 : leastN k ≤ n ∧ n ≤ mostN k
        · by_cases c4 : σ 3 a 0 < 20
          · have e : cd_line σ a place k n = 0 := by unfold cd_line; rw [if_pos c0, if_pos c1, if_pos c2, if_pos c3, if_pos c4]
            rw [e, stp_0, bx_0]
            intro sz
            refine w_ent (cc := cL_line) (maxL := 7) (ret := (some .int)) (hh := [(0, 14, 17, 19), (0, 14, 21, 21), (0, 14, 25, 13)]) (by decide) rfl hI (Nat.le_of_ble_eq_true rfl) ?_
            intro pgm env s₀ m₀ bel mth cod hX htab hK2 hNc hW hO hD hS hsz ls hl
            subst hsz
            have hC := hX.1
            have hx := hC.1
            have hb := hC.2.1
            have hts := hC.2.2.2.1
            have hl : lv_has ls 7 [(0, .ref (ad 0 0)), (1, .int (zi a)), (2, .int (zi place)), (3, .int (zi k)), (4, .int (zi n)), (5, .ref ao)] := hl
            refine lv_aload hx hb dL_line_0 (lv_at hl 5 rfl) ?_
            refine k_iconst hC dL_line_2 ?_
            refine lv_aload_n hx hb dL_line_3 rfl (lv_at hl 0 rfl) ?_
            refine lv_iload_n hx hb dL_line_4 rfl (lv_at hl 1 rfl) ?_
            refine lv_iload_n hx hb dL_line_5 rfl (lv_at hl 2 rfl) ?_
            refine lv_iload_n hx hb dL_line_6 rfl (lv_at hl 3 rfl) ?_
            refine lv_iload hx hb dL_line_7 (lv_at hl 4 rfl) ?_
            refine k_callI (As := [.int (zi a), .int (zi place), .int (zi k), .int (zi n)]) (rest := [.int (zi 0), .ref ao]) hX hl.1 (m_line hI σ a place k n hv (by omega) (by omega) (by omega) (by omega) (by omega) (by omega)) (cwV 4 hts gL_line_X7_line rfl rfl rfl (by decide +kernel) ⟨Nat.le_of_ble_eq_true rfl, Nat.le_of_ble_eq_true rfl⟩) (rc_KR hC hW) hW hS ⟨Nat.zero_le _, Nat.zero_le _⟩ rfl rfl (Nat.le_of_ble_eq_true rfl) dL_line_9 (fun H locs hW hS hz hk => ?_)
            have hO := wo_kept (fun t i x y => (hWN.2 t i x y).1) hO hk
            have hD := wo_kept (fun t i x y => (hWN.2 t i x y).2) hD hk
            refine lv_i2l hx hb dL_line_12 rfl ?_
            refine w_last hC hK2 hWN (Or.inl rfl) hW hO hD hS dL_line_13 (fun H locs hW hO hD hS => ?_)
            refine lv_goto (tgt := 29) hx hb dL_line_14 (by decide) ?_
            refine k_iconst hC dL_line_29 ?_
            exact w_ret hX hW hO hD hS (Nat.zero_le _) (Nat.zero_le _) dL_line_30
          · have e : cd_line σ a place k n = 3 := by unfold cd_line; rw [if_pos c0, if_pos c1, if_pos c2, if_pos c3, if_neg c4]
            rw [e, stp_1 (by decide), bx_1 (by decide)]
            intro sz
            refine w_ent (cc := cL_line) (maxL := 7) (ret := (some .int)) (hh := [(0, 14, 17, 19), (0, 14, 21, 21), (0, 14, 25, 13)]) (by decide) rfl hI (Nat.le_of_ble_eq_true rfl) ?_
            intro pgm env s₀ m₀ bel mth cod hX htab hK2 hNc hW hO hD hS hsz ls hl
            subst hsz
            have hC := hX.1
            have hx := hC.1
            have hb := hC.2.1
            have hts := hC.2.2.2.1
            have hl : lv_has ls 7 [(0, .ref (ad 0 0)), (1, .int (zi a)), (2, .int (zi place)), (3, .int (zi k)), (4, .int (zi n)), (5, .ref ao)] := hl
            refine lv_aload hx hb dL_line_0 (lv_at hl 5 rfl) ?_
            refine k_iconst hC dL_line_2 ?_
            refine lv_aload_n hx hb dL_line_3 rfl (lv_at hl 0 rfl) ?_
            refine lv_iload_n hx hb dL_line_4 rfl (lv_at hl 1 rfl) ?_
            refine lv_iload_n hx hb dL_line_5 rfl (lv_at hl 2 rfl) ?_
            refine lv_iload_n hx hb dL_line_6 rfl (lv_at hl 3 rfl) ?_
            refine lv_iload hx hb dL_line_7 (lv_at hl 4 rfl) ?_
            have hl_19 := hts (.classLink RL 19 "java/lang/IndexOutOfBoundsException") (by decide +kernel)
            have hl_21 := hts (.classLink RL 21 "java/lang/IllegalArgumentException") (by decide +kernel)
            have hl_13 := hts (.classLink RL 13 "java/lang/IllegalStateException") (by decide +kernel)
            refine w_caught (rest := [.int (zi 0), .ref ao]) (As := [.int (zi a), .int (zi place), .int (zi k), .int (zi n)]) (name := "java/lang/IllegalStateException") [⟨0, 14, 17, 19⟩, ⟨0, 14, 21, 21⟩] ⟨0, 14, 25, 13⟩ [] (tgt := 25) hX htab (List.forall_mem_cons.mpr ⟨⟨by decide, _, hl_19, hNc ("java/lang/IllegalStateException", "java/lang/IndexOutOfBoundsException") (by decide)⟩, (List.forall_mem_cons.mpr ⟨⟨by decide, _, hl_21, hNc ("java/lang/IllegalStateException", "java/lang/IllegalArgumentException") (by decide)⟩, (fun _ h => absurd h List.not_mem_nil)⟩)⟩) (by decide) (by decide) hl_13 (by decide) rfl hl.1 (m_line_s hI hfl σ a place k n hv (by omega) (by omega) (by omega) (by omega) (by omega) (by omega)) (cwV 4 hts gL_line_X7_line rfl rfl rfl (by decide +kernel) ⟨Nat.le_of_ble_eq_true rfl, Nat.le_of_ble_eq_true rfl⟩) (rc_KR hC hW) hW hS ⟨Nat.le_of_ble_eq_true rfl, Nat.le_of_ble_eq_true rfl⟩ rfl rfl (Nat.le_of_ble_eq_true rfl) dL_line_9 (fun H locs q hW hS hz hk => ?_)
            have hO := wo_kept (fun t i x y => (hWN.2 t i x y).1) hO hk
            have hD := wo_kept (fun t i x y => (hWN.2 t i x y).2) hD hk
            refine lv_astore (lv' := [(6, .ref q), (0, .ref (ad 0 0)), (1, .int (zi a)), (2, .int (zi place)), (3, .int (zi k)), (4, .int (zi n)), (5, .ref ao)]) hx hb dL_line_25 hl (by decide) rfl (fun ls hl => ?_)
            refine k_iconst hC dL_line_27 ?_
            have hW := gh (u := 31) (i := 0) (j := 0) (v := 3) (fun _ _ => rfl) hW
            exact w_ret hX hW hO hD hS (Nat.le_refl _) (Nat.le_refl _) dL_line_28
        · have e : cd_line σ a place k n = 2 := by unfold cd_line; rw [if_pos c0, if_pos c1, if_pos c2, if_neg c3]
          rw [e, stp_1 (by decide), bx_1 (by decide)]
          intro sz
          refine w_ent (cc := cL_line) (maxL := 7) (ret := (some .int)) (hh := [(0, 14, 17, 19), (0, 14, 21, 21), (0, 14, 25, 13)]) (by decide) rfl hI (Nat.le_of_ble_eq_true rfl) ?_
          intro pgm env s₀ m₀ bel mth cod hX htab hK2 hNc hW hO hD hS hsz ls hl
          subst hsz
          have hC := hX.1
          have hx := hC.1
          have hb := hC.2.1
          have hts := hC.2.2.2.1
          have hl : lv_has ls 7 [(0, .ref (ad 0 0)), (1, .int (zi a)), (2, .int (zi place)), (3, .int (zi k)), (4, .int (zi n)), (5, .ref ao)] := hl
          refine lv_aload hx hb dL_line_0 (lv_at hl 5 rfl) ?_
          refine k_iconst hC dL_line_2 ?_
          refine lv_aload_n hx hb dL_line_3 rfl (lv_at hl 0 rfl) ?_
          refine lv_iload_n hx hb dL_line_4 rfl (lv_at hl 1 rfl) ?_
          refine lv_iload_n hx hb dL_line_5 rfl (lv_at hl 2 rfl) ?_
          refine lv_iload_n hx hb dL_line_6 rfl (lv_at hl 3 rfl) ?_
          refine lv_iload hx hb dL_line_7 (lv_at hl 4 rfl) ?_
          have hl_19 := hts (.classLink RL 19 "java/lang/IndexOutOfBoundsException") (by decide +kernel)
          have hl_21 := hts (.classLink RL 21 "java/lang/IllegalArgumentException") (by decide +kernel)
          refine w_caught (rest := [.int (zi 0), .ref ao]) (As := [.int (zi a), .int (zi place), .int (zi k), .int (zi n)]) (name := "java/lang/IllegalArgumentException") [⟨0, 14, 17, 19⟩] ⟨0, 14, 21, 21⟩ [⟨0, 14, 25, 13⟩] (tgt := 21) hX htab (List.forall_mem_cons.mpr ⟨⟨by decide, _, hl_19, hNc ("java/lang/IllegalArgumentException", "java/lang/IndexOutOfBoundsException") (by decide)⟩, (fun _ h => absurd h List.not_mem_nil)⟩) (by decide) (by decide) hl_21 (by decide) rfl hl.1 (m_line_n hI hfl σ a place k n hv (by omega) (by omega) (by omega) (by omega) (by omega) (by omega)) (cwV 4 hts gL_line_X7_line rfl rfl rfl (by decide +kernel) ⟨Nat.le_of_ble_eq_true rfl, Nat.le_of_ble_eq_true rfl⟩) (rc_KR hC hW) hW hS ⟨Nat.le_of_ble_eq_true rfl, Nat.le_of_ble_eq_true rfl⟩ rfl rfl (Nat.le_of_ble_eq_true rfl) dL_line_9 (fun H locs q hW hS hz hk => ?_)
          have hO := wo_kept (fun t i x y => (hWN.2 t i x y).1) hO hk
          have hD := wo_kept (fun t i x y => (hWN.2 t i x y).2) hD hk
          refine lv_astore (lv' := [(6, .ref q), (0, .ref (ad 0 0)), (1, .int (zi a)), (2, .int (zi place)), (3, .int (zi k)), (4, .int (zi n)), (5, .ref ao)]) hx hb dL_line_21 hl (by decide) rfl (fun ls hl => ?_)
          refine k_iconst hC dL_line_23 ?_
          have hW := gh (u := 31) (i := 0) (j := 0) (v := 2) (fun _ _ => rfl) hW
          exact w_ret hX hW hO hD hS (Nat.le_refl _) (Nat.le_refl _) dL_line_24
      · have e : cd_line σ a place k n = 2 := by unfold cd_line; rw [if_pos c0, if_pos c1, if_neg c2]
        rw [e, stp_1 (by decide), bx_1 (by decide)]
        intro sz
        refine w_ent (cc := cL_line) (maxL := 7) (ret := (some .int)) (hh := [(0, 14, 17, 19), (0, 14, 21, 21), (0, 14, 25, 13)]) (by decide) rfl hI (Nat.le_of_ble_eq_true rfl) ?_
        intro pgm env s₀ m₀ bel mth cod hX htab hK2 hNc hW hO hD hS hsz ls hl
        subst hsz
        have hC := hX.1
        have hx := hC.1
        have hb := hC.2.1
        have hts := hC.2.2.2.1
        have hl : lv_has ls 7 [(0, .ref (ad 0 0)), (1, .int (zi a)), (2, .int (zi place)), (3, .int (zi k)), (4, .int (zi n)), (5, .ref ao)] := hl
        refine lv_aload hx hb dL_line_0 (lv_at hl 5 rfl) ?_
        refine k_iconst hC dL_line_2 ?_
        refine lv_aload_n hx hb dL_line_3 rfl (lv_at hl 0 rfl) ?_
        refine lv_iload_n hx hb dL_line_4 rfl (lv_at hl 1 rfl) ?_
        refine lv_iload_n hx hb dL_line_5 rfl (lv_at hl 2 rfl) ?_
        refine lv_iload_n hx hb dL_line_6 rfl (lv_at hl 3 rfl) ?_
        refine lv_iload hx hb dL_line_7 (lv_at hl 4 rfl) ?_
        have hl_19 := hts (.classLink RL 19 "java/lang/IndexOutOfBoundsException") (by decide +kernel)
        have hl_21 := hts (.classLink RL 21 "java/lang/IllegalArgumentException") (by decide +kernel)
        refine w_caught (rest := [.int (zi 0), .ref ao]) (As := [.int (zi a), .int (zi place), .int (zi k), .int (zi n)]) (name := "java/lang/IllegalArgumentException") [⟨0, 14, 17, 19⟩] ⟨0, 14, 21, 21⟩ [⟨0, 14, 25, 13⟩] (tgt := 21) hX htab (List.forall_mem_cons.mpr ⟨⟨by decide, _, hl_19, hNc ("java/lang/IllegalArgumentException", "java/lang/IndexOutOfBoundsException") (by decide)⟩, (fun _ h => absurd h List.not_mem_nil)⟩) (by decide) (by decide) hl_21 (by decide) rfl hl.1 (m_line_k hI hfl σ a place k n hv (by omega) (by omega) (by omega) (by omega)) (cwV 4 hts gL_line_X7_line rfl rfl rfl (by decide +kernel) ⟨Nat.le_of_ble_eq_true rfl, Nat.le_of_ble_eq_true rfl⟩) (rc_KR hC hW) hW hS ⟨Nat.le_of_ble_eq_true rfl, Nat.le_of_ble_eq_true rfl⟩ rfl rfl (Nat.le_of_ble_eq_true rfl) dL_line_9 (fun H locs q hW hS hz hk => ?_)
        have hO := wo_kept (fun t i x y => (hWN.2 t i x y).1) hO hk
        have hD := wo_kept (fun t i x y => (hWN.2 t i x y).2) hD hk
        refine lv_astore (lv' := [(6, .ref q), (0, .ref (ad 0 0)), (1, .int (zi a)), (2, .int (zi place)), (3, .int (zi k)), (4, .int (zi n)), (5, .ref ao)]) hx hb dL_line_21 hl (by decide) rfl (fun ls hl => ?_)
        refine k_iconst hC dL_line_23 ?_
        have hW := gh (u := 31) (i := 0) (j := 0) (v := 2) (fun _ _ => rfl) hW
        exact w_ret hX hW hO hD hS (Nat.le_refl _) (Nat.le_refl _) dL_line_24
    · have e : cd_line σ a place k n = 1 := by unfold cd_line; rw [if_pos c0, if_neg c1]
      rw [e, stp_1 (by decide), bx_1 (by decide)]
      intro sz
      refine w_ent (cc := cL_line) (maxL := 7) (ret := (some .int)) (hh := [(0, 14, 17, 19), (0, 14, 21, 21), (0, 14, 25, 13)]) (by decide) rfl hI (Nat.le_of_ble_eq_true rfl) ?_
      intro pgm env s₀ m₀ bel mth cod hX htab hK2 hNc hW hO hD hS hsz ls hl
      subst hsz
      have hC := hX.1
      have hx := hC.1
      have hb := hC.2.1
      have hts := hC.2.2.2.1
      have hl : lv_has ls 7 [(0, .ref (ad 0 0)), (1, .int (zi a)), (2, .int (zi place)), (3, .int (zi k)), (4, .int (zi n)), (5, .ref ao)] := hl
      refine lv_aload hx hb dL_line_0 (lv_at hl 5 rfl) ?_
      refine k_iconst hC dL_line_2 ?_
      refine lv_aload_n hx hb dL_line_3 rfl (lv_at hl 0 rfl) ?_
      refine lv_iload_n hx hb dL_line_4 rfl (lv_at hl 1 rfl) ?_
      refine lv_iload_n hx hb dL_line_5 rfl (lv_at hl 2 rfl) ?_
      refine lv_iload_n hx hb dL_line_6 rfl (lv_at hl 3 rfl) ?_
      refine lv_iload hx hb dL_line_7 (lv_at hl 4 rfl) ?_
      have hl_19 := hts (.classLink RL 19 "java/lang/IndexOutOfBoundsException") (by decide +kernel)
      refine w_caught (rest := [.int (zi 0), .ref ao]) (As := [.int (zi a), .int (zi place), .int (zi k), .int (zi n)]) (name := "java/lang/IndexOutOfBoundsException") [] ⟨0, 14, 17, 19⟩ [⟨0, 14, 21, 21⟩, ⟨0, 14, 25, 13⟩] (tgt := 17) hX htab (fun _ h => absurd h List.not_mem_nil) (by decide) (by decide) hl_19 (by decide) rfl hl.1 (m_line_y hI hfl σ a place k n hv (by omega) (by omega) (by omega)) (cwV 4 hts gL_line_X7_line rfl rfl rfl (by decide +kernel) ⟨Nat.le_of_ble_eq_true rfl, Nat.le_of_ble_eq_true rfl⟩) (rc_KR hC hW) hW hS ⟨Nat.le_of_ble_eq_true rfl, Nat.le_of_ble_eq_true rfl⟩ rfl rfl (Nat.le_of_ble_eq_true rfl) dL_line_9 (fun H locs q hW hS hz hk => ?_)
      have hO := wo_kept (fun t i x y => (hWN.2 t i x y).1) hO hk
      have hD := wo_kept (fun t i x y => (hWN.2 t i x y).2) hD hk
      refine lv_astore (lv' := [(6, .ref q), (0, .ref (ad 0 0)), (1, .int (zi a)), (2, .int (zi place)), (3, .int (zi k)), (4, .int (zi n)), (5, .ref ao)]) hx hb dL_line_17 hl (by decide) rfl (fun ls hl => ?_)
      refine k_iconst hC dL_line_19 ?_
      have hW := gh (u := 31) (i := 0) (j := 0) (v := 1) (fun _ _ => rfl) hW
      exact w_ret hX hW hO hD hS (Nat.le_refl _) (Nat.le_refl _) dL_line_20
  · have e : cd_line σ a place k n = 1 := by unfold cd_line; rw [if_neg c0]
    rw [e, stp_1 (by decide), bx_1 (by decide)]
    intro sz
    refine w_ent (cc := cL_line) (maxL := 7) (ret := (some .int)) (hh := [(0, 14, 17, 19), (0, 14, 21, 21), (0, 14, 25, 13)]) (by decide) rfl hI (Nat.le_of_ble_eq_true rfl) ?_
    intro pgm env s₀ m₀ bel mth cod hX htab hK2 hNc hW hO hD hS hsz ls hl
    subst hsz
    have hC := hX.1
    have hx := hC.1
    have hb := hC.2.1
    have hts := hC.2.2.2.1
    have hl : lv_has ls 7 [(0, .ref (ad 0 0)), (1, .int (zi a)), (2, .int (zi place)), (3, .int (zi k)), (4, .int (zi n)), (5, .ref ao)] := hl
    refine lv_aload hx hb dL_line_0 (lv_at hl 5 rfl) ?_
    refine k_iconst hC dL_line_2 ?_
    refine lv_aload_n hx hb dL_line_3 rfl (lv_at hl 0 rfl) ?_
    refine lv_iload_n hx hb dL_line_4 rfl (lv_at hl 1 rfl) ?_
    refine lv_iload_n hx hb dL_line_5 rfl (lv_at hl 2 rfl) ?_
    refine lv_iload_n hx hb dL_line_6 rfl (lv_at hl 3 rfl) ?_
    refine lv_iload hx hb dL_line_7 (lv_at hl 4 rfl) ?_
    have hl_19 := hts (.classLink RL 19 "java/lang/IndexOutOfBoundsException") (by decide +kernel)
    refine w_caught (rest := [.int (zi 0), .ref ao]) (As := [.int (zi a), .int (zi place), .int (zi k), .int (zi n)]) (name := "java/lang/IndexOutOfBoundsException") [] ⟨0, 14, 17, 19⟩ [⟨0, 14, 21, 21⟩, ⟨0, 14, 25, 13⟩] (tgt := 17) hX htab (fun _ h => absurd h List.not_mem_nil) (by decide) (by decide) hl_19 (by decide) rfl hl.1 (m_line_x hI hfl σ a place k n hv (by omega) (by omega)) (cwV 4 hts gL_line_X7_line rfl rfl rfl (by decide +kernel) ⟨Nat.le_of_ble_eq_true rfl, Nat.le_of_ble_eq_true rfl⟩) (rc_KR hC hW) hW hS ⟨Nat.le_of_ble_eq_true rfl, Nat.le_of_ble_eq_true rfl⟩ rfl rfl (Nat.le_of_ble_eq_true rfl) dL_line_9 (fun H locs q hW hS hz hk => ?_)
    have hO := wo_kept (fun t i x y => (hWN.2 t i x y).1) hO hk
    have hD := wo_kept (fun t i x y => (hWN.2 t i x y).2) hD hk
    refine lv_astore (lv' := [(6, .ref q), (0, .ref (ad 0 0)), (1, .int (zi a)), (2, .int (zi place)), (3, .int (zi k)), (4, .int (zi n)), (5, .ref ao)]) hx hb dL_line_17 hl (by decide) rfl (fun ls hl => ?_)
    refine k_iconst hC dL_line_19 ?_
    have hW := gh (u := 31) (i := 0) (j := 0) (v := 1) (fun _ _ => rfl) hW
    exact w_ret hX hW hO hD hS (Nat.le_refl _) (Nat.le_refl _) dL_line_20
set_option maxHeartbeats 2000000 in
set_option maxRecDepth 100000 in
theorem w_cut {l : Launch} {Dg : va_G} {cA : Nat → ClassId} {cL cD : ClassId} {ad : Nat → Int → Nat} {oc : Nat → Nat} {ao aD : Nat} (hI : WI ccnt ad) (hWN : WN ad ao aD) (hfl : l.stackTraces = false) {N M : Int} (σ : St) (a place : Int) (hv : Inv N M σ) (hN : N ≤ 1000000) (hM : 0 ≤ M ∧ M ≤ 1000000) (hr_a : -2147483648 ≤ a ∧ a < 2147483648) (hr_place : -2147483648 ≤ place ∧ place < 2147483648) (o : Int64) (d9 : UInt64) : GW l yL_cut wsL_cut ({ frames := 8, cells := 1, slots := 6, locals := 135 } : Room) Dg cA cL cD ad oc ao aD (cE cA ad σ) o d9 [.ref (ad 0 0), .int (zi a), .int (zi place), .ref ao] (cd_cut σ a place) (cE cA ad (stp (cd_cut σ a place) (fRem σ a place) σ)) (bx (cd_cut σ a place) (zi (σ 1 a place)).toInt64 o) d9 := by
  have hA := hv.A
  unfold IvA at hA
  by_cases c0 : 0 ≤ a ∧ a < σ 26 0 0
  · by_cases c1 : 0 ≤ place ∧ place < σ 3 a 0
    · have e : cd_cut σ a place = 0 := by unfold cd_cut; rw [if_pos c0, if_pos c1]
      rw [e, stp_0, bx_0]
      intro sz
      refine w_ent (cc := cL_cut) (maxL := 5) (ret := (some .int)) (hh := [(0, 10, 13, 19)]) (by decide) rfl hI (Nat.le_of_ble_eq_true rfl) ?_
      intro pgm env s₀ m₀ bel mth cod hX htab hK2 hNc hW hO hD hS hsz ls hl
      subst hsz
      have hC := hX.1
      have hx := hC.1
      have hb := hC.2.1
      have hts := hC.2.2.2.1
      have hl : lv_has ls 5 [(0, .ref (ad 0 0)), (1, .int (zi a)), (2, .int (zi place)), (3, .ref ao)] := hl
      refine lv_aload_n hx hb dL_cut_0 rfl (lv_at hl 3 rfl) ?_
      refine k_iconst hC dL_cut_1 ?_
      refine lv_aload_n hx hb dL_cut_2 rfl (lv_at hl 0 rfl) ?_
      refine lv_iload_n hx hb dL_cut_3 rfl (lv_at hl 1 rfl) ?_
      refine lv_iload_n hx hb dL_cut_4 rfl (lv_at hl 2 rfl) ?_
      refine k_callI (As := [.int (zi a), .int (zi place)]) (rest := [.int (zi 0), .ref ao]) hX hl.1 (m_cut hI σ a place hv (by omega) (by omega)) (cwV 2 hts gL_cut_X7_cut rfl rfl rfl (by decide +kernel) ⟨Nat.le_of_ble_eq_true rfl, Nat.le_of_ble_eq_true rfl⟩) (rc_KR hC hW) hW hS ⟨Nat.zero_le _, Nat.zero_le _⟩ rfl rfl (Nat.le_of_ble_eq_true rfl) dL_cut_5 (fun H locs hW hS hz hk => ?_)
      have hO := wo_kept (fun t i x y => (hWN.2 t i x y).1) hO hk
      have hD := wo_kept (fun t i x y => (hWN.2 t i x y).2) hD hk
      refine lv_i2l hx hb dL_cut_8 rfl ?_
      refine w_last hC hK2 hWN (Or.inl rfl) hW hO hD hS dL_cut_9 (fun H locs hW hO hD hS => ?_)
      refine lv_goto (tgt := 17) hx hb dL_cut_10 (by decide) ?_
      refine k_iconst hC dL_cut_17 ?_
      exact w_ret hX hW hO hD hS (Nat.zero_le _) (Nat.zero_le _) dL_cut_18
    · have e : cd_cut σ a place = 1 := by unfold cd_cut; rw [if_pos c0, if_neg c1]
      rw [e, stp_1 (by decide), bx_1 (by decide)]
      intro sz
      refine w_ent (cc := cL_cut) (maxL := 5) (ret := (some .int)) (hh := [(0, 10, 13, 19)]) (by decide) rfl hI (Nat.le_of_ble_eq_true rfl) ?_
      intro pgm env s₀ m₀ bel mth cod hX htab hK2 hNc hW hO hD hS hsz ls hl
      subst hsz
      have hC := hX.1
      have hx := hC.1
      have hb := hC.2.1
      have hts := hC.2.2.2.1
      have hl : lv_has ls 5 [(0, .ref (ad 0 0)), (1, .int (zi a)), (2, .int (zi place)), (3, .ref ao)] := hl
      refine lv_aload_n hx hb dL_cut_0 rfl (lv_at hl 3 rfl) ?_
      refine k_iconst hC dL_cut_1 ?_
      refine lv_aload_n hx hb dL_cut_2 rfl (lv_at hl 0 rfl) ?_
      refine lv_iload_n hx hb dL_cut_3 rfl (lv_at hl 1 rfl) ?_
      refine lv_iload_n hx hb dL_cut_4 rfl (lv_at hl 2 rfl) ?_
      have hl_19 := hts (.classLink RL 19 "java/lang/IndexOutOfBoundsException") (by decide +kernel)
      refine w_caught (rest := [.int (zi 0), .ref ao]) (As := [.int (zi a), .int (zi place)]) (name := "java/lang/IndexOutOfBoundsException") [] ⟨0, 10, 13, 19⟩ [] (tgt := 13) hX htab (fun _ h => absurd h List.not_mem_nil) (by decide) (by decide) hl_19 (by decide) rfl hl.1 (m_cut_y hI hfl σ a place hv (by omega) (by omega) (by omega)) (cwV 2 hts gL_cut_X7_cut rfl rfl rfl (by decide +kernel) ⟨Nat.le_of_ble_eq_true rfl, Nat.le_of_ble_eq_true rfl⟩) (rc_KR hC hW) hW hS ⟨Nat.le_of_ble_eq_true rfl, Nat.le_of_ble_eq_true rfl⟩ rfl rfl (Nat.le_of_ble_eq_true rfl) dL_cut_5 (fun H locs q hW hS hz hk => ?_)
      have hO := wo_kept (fun t i x y => (hWN.2 t i x y).1) hO hk
      have hD := wo_kept (fun t i x y => (hWN.2 t i x y).2) hD hk
      refine lv_astore (lv' := [(4, .ref q), (0, .ref (ad 0 0)), (1, .int (zi a)), (2, .int (zi place)), (3, .ref ao)]) hx hb dL_cut_13 hl (by decide) rfl (fun ls hl => ?_)
      refine k_iconst hC dL_cut_15 ?_
      have hW := gh (u := 31) (i := 0) (j := 0) (v := 1) (fun _ _ => rfl) hW
      exact w_ret hX hW hO hD hS (Nat.le_refl _) (Nat.le_refl _) dL_cut_16
  · have e : cd_cut σ a place = 1 := by unfold cd_cut; rw [if_neg c0]
    rw [e, stp_1 (by decide), bx_1 (by decide)]
    intro sz
    refine w_ent (cc := cL_cut) (maxL := 5) (ret := (some .int)) (hh := [(0, 10, 13, 19)]) (by decide) rfl hI (Nat.le_of_ble_eq_true rfl) ?_
    intro pgm env s₀ m₀ bel mth cod hX htab hK2 hNc hW hO hD hS hsz ls hl
    subst hsz
    have hC := hX.1
    have hx := hC.1
    have hb := hC.2.1
    have hts := hC.2.2.2.1
    have hl : lv_has ls 5 [(0, .ref (ad 0 0)), (1, .int (zi a)), (2, .int (zi place)), (3, .ref ao)] := hl
    refine lv_aload_n hx hb dL_cut_0 rfl (lv_at hl 3 rfl) ?_
    refine k_iconst hC dL_cut_1 ?_
    refine lv_aload_n hx hb dL_cut_2 rfl (lv_at hl 0 rfl) ?_
    refine lv_iload_n hx hb dL_cut_3 rfl (lv_at hl 1 rfl) ?_
    refine lv_iload_n hx hb dL_cut_4 rfl (lv_at hl 2 rfl) ?_
    have hl_19 := hts (.classLink RL 19 "java/lang/IndexOutOfBoundsException") (by decide +kernel)
    refine w_caught (rest := [.int (zi 0), .ref ao]) (As := [.int (zi a), .int (zi place)]) (name := "java/lang/IndexOutOfBoundsException") [] ⟨0, 10, 13, 19⟩ [] (tgt := 13) hX htab (fun _ h => absurd h List.not_mem_nil) (by decide) (by decide) hl_19 (by decide) rfl hl.1 (m_cut_x hI hfl σ a place hv (by omega) (by omega)) (cwV 2 hts gL_cut_X7_cut rfl rfl rfl (by decide +kernel) ⟨Nat.le_of_ble_eq_true rfl, Nat.le_of_ble_eq_true rfl⟩) (rc_KR hC hW) hW hS ⟨Nat.le_of_ble_eq_true rfl, Nat.le_of_ble_eq_true rfl⟩ rfl rfl (Nat.le_of_ble_eq_true rfl) dL_cut_5 (fun H locs q hW hS hz hk => ?_)
    have hO := wo_kept (fun t i x y => (hWN.2 t i x y).1) hO hk
    have hD := wo_kept (fun t i x y => (hWN.2 t i x y).2) hD hk
    refine lv_astore (lv' := [(4, .ref q), (0, .ref (ad 0 0)), (1, .int (zi a)), (2, .int (zi place)), (3, .ref ao)]) hx hb dL_cut_13 hl (by decide) rfl (fun ls hl => ?_)
    refine k_iconst hC dL_cut_15 ?_
    have hW := gh (u := 31) (i := 0) (j := 0) (v := 1) (fun _ _ => rfl) hW
    exact w_ret hX hW hO hD hS (Nat.le_refl _) (Nat.le_refl _) dL_cut_16
set_option maxHeartbeats 2000000 in
set_option maxRecDepth 100000 in
theorem w_lines {l : Launch} {Dg : va_G} {cA : Nat → ClassId} {cL cD : ClassId} {ad : Nat → Int → Nat} {oc : Nat → Nat} {ao aD : Nat} (hI : WI ccnt ad) (hWN : WN ad ao aD) (hfl : l.stackTraces = false) {N M : Int} (σ : St) (a k : Int) (hv : Inv N M σ) (hN : N ≤ 1000000) (hM : 0 ≤ M ∧ M ≤ 1000000) (hr_a : -2147483648 ≤ a ∧ a < 2147483648) (hr_k : 0 ≤ k ∧ k < 65536) (o : Int64) (d9 : UInt64) : GW l yL_lines wsL_lines ({ frames := 8, cells := 1, slots := 6, locals := 133 } : Room) Dg cA cL cD ad oc ao aD (cE cA ad σ) o d9 [.ref (ad 0 0), .int (zi a), .int (zi k), .ref ao] (cd_lines σ a k) (cE cA ad (stp (cd_lines σ a k) σ σ)) (bx (cd_lines σ a k) (zi (cN (fun j => decide (σ 1 a j = k)) (σ 3 a 0))).toInt64 o) d9 := by
  have hA := hv.A
  unfold IvA at hA
  by_cases c0 : 0 ≤ a ∧ a < σ 26 0 0
  · by_cases c1 : mostN k ≠ -1
    · have e : cd_lines σ a k = 0 := by unfold cd_lines; rw [if_pos c0, if_pos c1]
      rw [e, stp_0, bx_0]
      intro sz
      refine w_ent (cc := cL_lines) (maxL := 5) (ret := (some .int)) (hh := [(0, 10, 13, 19), (0, 10, 17, 21)]) (by decide) rfl hI (Nat.le_of_ble_eq_true rfl) ?_
      intro pgm env s₀ m₀ bel mth cod hX htab hK2 hNc hW hO hD hS hsz ls hl
      subst hsz
      have hC := hX.1
      have hx := hC.1
      have hb := hC.2.1
      have hts := hC.2.2.2.1
      have hl : lv_has ls 5 [(0, .ref (ad 0 0)), (1, .int (zi a)), (2, .int (zi k)), (3, .ref ao)] := hl
      refine lv_aload_n hx hb dL_lines_0 rfl (lv_at hl 3 rfl) ?_
      refine k_iconst hC dL_lines_1 ?_
      refine lv_aload_n hx hb dL_lines_2 rfl (lv_at hl 0 rfl) ?_
      refine lv_iload_n hx hb dL_lines_3 rfl (lv_at hl 1 rfl) ?_
      refine lv_iload_n hx hb dL_lines_4 rfl (lv_at hl 2 rfl) ?_
      refine k_callI (As := [.int (zi a), .int (zi k)]) (rest := [.int (zi 0), .ref ao]) hX hl.1 (m_lines hI σ a k hv (by omega) (by omega) (by omega)) (cwV 2 hts gL_lines_X7_lines rfl rfl rfl (by decide +kernel) ⟨Nat.le_of_ble_eq_true rfl, Nat.le_of_ble_eq_true rfl⟩) (rc_KR hC hW) hW hS ⟨Nat.zero_le _, Nat.zero_le _⟩ rfl rfl (Nat.le_of_ble_eq_true rfl) dL_lines_5 (fun H locs hW hS hz hk => ?_)
      have hO := wo_kept (fun t i x y => (hWN.2 t i x y).1) hO hk
      have hD := wo_kept (fun t i x y => (hWN.2 t i x y).2) hD hk
      refine lv_i2l hx hb dL_lines_8 rfl ?_
      refine w_last hC hK2 hWN (Or.inl rfl) hW hO hD hS dL_lines_9 (fun H locs hW hO hD hS => ?_)
      refine lv_goto (tgt := 21) hx hb dL_lines_10 (by decide) ?_
      refine k_iconst hC dL_lines_21 ?_
      exact w_ret hX hW hO hD hS (Nat.zero_le _) (Nat.zero_le _) dL_lines_22
    · have e : cd_lines σ a k = 2 := by unfold cd_lines; rw [if_pos c0, if_neg c1]
      rw [e, stp_1 (by decide), bx_1 (by decide)]
      intro sz
      refine w_ent (cc := cL_lines) (maxL := 5) (ret := (some .int)) (hh := [(0, 10, 13, 19), (0, 10, 17, 21)]) (by decide) rfl hI (Nat.le_of_ble_eq_true rfl) ?_
      intro pgm env s₀ m₀ bel mth cod hX htab hK2 hNc hW hO hD hS hsz ls hl
      subst hsz
      have hC := hX.1
      have hx := hC.1
      have hb := hC.2.1
      have hts := hC.2.2.2.1
      have hl : lv_has ls 5 [(0, .ref (ad 0 0)), (1, .int (zi a)), (2, .int (zi k)), (3, .ref ao)] := hl
      refine lv_aload_n hx hb dL_lines_0 rfl (lv_at hl 3 rfl) ?_
      refine k_iconst hC dL_lines_1 ?_
      refine lv_aload_n hx hb dL_lines_2 rfl (lv_at hl 0 rfl) ?_
      refine lv_iload_n hx hb dL_lines_3 rfl (lv_at hl 1 rfl) ?_
      refine lv_iload_n hx hb dL_lines_4 rfl (lv_at hl 2 rfl) ?_
      have hl_19 := hts (.classLink RL 19 "java/lang/IndexOutOfBoundsException") (by decide +kernel)
      have hl_21 := hts (.classLink RL 21 "java/lang/IllegalArgumentException") (by decide +kernel)
      refine w_caught (rest := [.int (zi 0), .ref ao]) (As := [.int (zi a), .int (zi k)]) (name := "java/lang/IllegalArgumentException") [⟨0, 10, 13, 19⟩] ⟨0, 10, 17, 21⟩ [] (tgt := 17) hX htab (List.forall_mem_cons.mpr ⟨⟨by decide, _, hl_19, hNc ("java/lang/IllegalArgumentException", "java/lang/IndexOutOfBoundsException") (by decide)⟩, (fun _ h => absurd h List.not_mem_nil)⟩) (by decide) (by decide) hl_21 (by decide) rfl hl.1 (m_lines_k hI hfl σ a k hv (by omega) (by omega) (by omega)) (cwV 2 hts gL_lines_X7_lines rfl rfl rfl (by decide +kernel) ⟨Nat.le_of_ble_eq_true rfl, Nat.le_of_ble_eq_true rfl⟩) (rc_KR hC hW) hW hS ⟨Nat.le_of_ble_eq_true rfl, Nat.le_of_ble_eq_true rfl⟩ rfl rfl (Nat.le_of_ble_eq_true rfl) dL_lines_5 (fun H locs q hW hS hz hk => ?_)
      have hO := wo_kept (fun t i x y => (hWN.2 t i x y).1) hO hk
      have hD := wo_kept (fun t i x y => (hWN.2 t i x y).2) hD hk
      refine lv_astore (lv' := [(4, .ref q), (0, .ref (ad 0 0)), (1, .int (zi a)), (2, .int (zi k)), (3, .ref ao)]) hx hb dL_lines_17 hl (by decide) rfl (fun ls hl => ?_)
      refine k_iconst hC dL_lines_19 ?_
      have hW := gh (u := 31) (i := 0) (j := 0) (v := 2) (fun _ _ => rfl) hW
      exact w_ret hX hW hO hD hS (Nat.le_refl _) (Nat.le_refl _) dL_lines_20
  · have e : cd_lines σ a k = 1 := by unfold cd_lines; rw [if_neg c0]
    rw [e, stp_1 (by decide), bx_1 (by decide)]
    intro sz
    refine w_ent (cc := cL_lines) (maxL := 5) (ret := (some .int)) (hh := [(0, 10, 13, 19), (0, 10, 17, 21)]) (by decide) rfl hI (Nat.le_of_ble_eq_true rfl) ?_
    intro pgm env s₀ m₀ bel mth cod hX htab hK2 hNc hW hO hD hS hsz ls hl
    subst hsz
    have hC := hX.1
    have hx := hC.1
    have hb := hC.2.1
    have hts := hC.2.2.2.1
    have hl : lv_has ls 5 [(0, .ref (ad 0 0)), (1, .int (zi a)), (2, .int (zi k)), (3, .ref ao)] := hl
    refine lv_aload_n hx hb dL_lines_0 rfl (lv_at hl 3 rfl) ?_
    refine k_iconst hC dL_lines_1 ?_
    refine lv_aload_n hx hb dL_lines_2 rfl (lv_at hl 0 rfl) ?_
    refine lv_iload_n hx hb dL_lines_3 rfl (lv_at hl 1 rfl) ?_
    refine lv_iload_n hx hb dL_lines_4 rfl (lv_at hl 2 rfl) ?_
    have hl_19 := hts (.classLink RL 19 "java/lang/IndexOutOfBoundsException") (by decide +kernel)
    refine w_caught (rest := [.int (zi 0), .ref ao]) (As := [.int (zi a), .int (zi k)]) (name := "java/lang/IndexOutOfBoundsException") [] ⟨0, 10, 13, 19⟩ [⟨0, 10, 17, 21⟩] (tgt := 13) hX htab (fun _ h => absurd h List.not_mem_nil) (by decide) (by decide) hl_19 (by decide) rfl hl.1 (m_lines_x hI hfl σ a k hv (by omega) (by omega)) (cwV 2 hts gL_lines_X7_lines rfl rfl rfl (by decide +kernel) ⟨Nat.le_of_ble_eq_true rfl, Nat.le_of_ble_eq_true rfl⟩) (rc_KR hC hW) hW hS ⟨Nat.le_of_ble_eq_true rfl, Nat.le_of_ble_eq_true rfl⟩ rfl rfl (Nat.le_of_ble_eq_true rfl) dL_lines_5 (fun H locs q hW hS hz hk => ?_)
    have hO := wo_kept (fun t i x y => (hWN.2 t i x y).1) hO hk
    have hD := wo_kept (fun t i x y => (hWN.2 t i x y).2) hD hk
    refine lv_astore (lv' := [(4, .ref q), (0, .ref (ad 0 0)), (1, .int (zi a)), (2, .int (zi k)), (3, .ref ao)]) hx hb dL_lines_13 hl (by decide) rfl (fun ls hl => ?_)
    refine k_iconst hC dL_lines_15 ?_
    have hW := gh (u := 31) (i := 0) (j := 0) (v := 1) (fun _ _ => rfl) hW
    exact w_ret hX hW hO hD hS (Nat.le_refl _) (Nat.le_refl _) dL_lines_16
set_option maxHeartbeats 2000000 in
set_option maxRecDepth 100000 in
theorem w_kiosk {l : Launch} {Dg : va_G} {cA : Nat → ClassId} {cL cD : ClassId} {ad : Nat → Int → Nat} {oc : Nat → Nat} {ao aD : Nat} (hI : WI ccnt ad) (hWN : WN ad ao aD) (hfl : l.stackTraces = false) {N M : Int} (σ : St) (hv : Inv N M σ) (hN : N ≤ 1000000) (hM : 0 ≤ M ∧ M ≤ 1000000) (o : Int64) (d9 : UInt64) : GW l yL_kiosk wsL_kiosk ({ frames := 7, cells := 1, slots := 6, locals := 110 } : Room) Dg cA cL cD ad oc ao aD (cE cA ad σ) o d9 [.ref (ad 0 0), .ref ao] (cd_kiosk σ) (cE cA ad (stp (cd_kiosk σ) (ups σ 27 0 0 (σ 27 0 0 + 1)) σ)) (bx (cd_kiosk σ) (zi (σ 27 0 0)).toInt64 o) d9 := by
  have hA := hv.A
  unfold IvA at hA
  by_cases c0 : σ 27 0 0 < 6
  · have e : cd_kiosk σ = 0 := by unfold cd_kiosk; rw [if_pos c0]
    rw [e, stp_0, bx_0]
    intro sz
    refine w_ent (cc := cL_kiosk) (maxL := 3) (ret := (some .int)) (hh := [(0, 8, 11, 13)]) (by decide) rfl hI (Nat.le_of_ble_eq_true rfl) ?_
    intro pgm env s₀ m₀ bel mth cod hX htab hK2 hNc hW hO hD hS hsz ls hl
    subst hsz
    have hC := hX.1
    have hx := hC.1
    have hb := hC.2.1
    have hts := hC.2.2.2.1
    have hl : lv_has ls 3 [(0, .ref (ad 0 0)), (1, .ref ao)] := hl
    refine lv_aload_n hx hb dL_kiosk_0 rfl (lv_at hl 1 rfl) ?_
    refine k_iconst hC dL_kiosk_1 ?_
    refine lv_aload_n hx hb dL_kiosk_2 rfl (lv_at hl 0 rfl) ?_
    refine k_callI (As := []) (rest := [.int (zi 0), .ref ao]) hX hl.1 (m_kiosk hI σ (by omega)) (cwV 0 hts gL_kiosk_X7_kiosk rfl rfl rfl (by decide +kernel) ⟨Nat.le_of_ble_eq_true rfl, Nat.le_of_ble_eq_true rfl⟩) (rc_KR hC hW) hW hS ⟨Nat.zero_le _, Nat.zero_le _⟩ rfl rfl (Nat.le_of_ble_eq_true rfl) dL_kiosk_3 (fun H locs hW hS hz hk => ?_)
    have hO := wo_kept (fun t i x y => (hWN.2 t i x y).1) hO hk
    have hD := wo_kept (fun t i x y => (hWN.2 t i x y).2) hD hk
    refine lv_i2l hx hb dL_kiosk_6 rfl ?_
    refine w_last hC hK2 hWN (Or.inl rfl) hW hO hD hS dL_kiosk_7 (fun H locs hW hO hD hS => ?_)
    refine lv_goto (tgt := 14) hx hb dL_kiosk_8 (by decide) ?_
    refine k_iconst hC dL_kiosk_14 ?_
    exact w_ret hX hW hO hD hS (Nat.zero_le _) (Nat.zero_le _) dL_kiosk_15
  · have e : cd_kiosk σ = 1 := by unfold cd_kiosk; rw [if_neg c0]
    rw [e, stp_1 (by decide), bx_1 (by decide)]
    intro sz
    refine w_ent (cc := cL_kiosk) (maxL := 3) (ret := (some .int)) (hh := [(0, 8, 11, 13)]) (by decide) rfl hI (Nat.le_of_ble_eq_true rfl) ?_
    intro pgm env s₀ m₀ bel mth cod hX htab hK2 hNc hW hO hD hS hsz ls hl
    subst hsz
    have hC := hX.1
    have hx := hC.1
    have hb := hC.2.1
    have hts := hC.2.2.2.1
    have hl : lv_has ls 3 [(0, .ref (ad 0 0)), (1, .ref ao)] := hl
    refine lv_aload_n hx hb dL_kiosk_0 rfl (lv_at hl 1 rfl) ?_
    refine k_iconst hC dL_kiosk_1 ?_
    refine lv_aload_n hx hb dL_kiosk_2 rfl (lv_at hl 0 rfl) ?_
    have hl_13 := hts (.classLink RL 13 "java/lang/IllegalStateException") (by decide +kernel)
    refine w_caught (rest := [.int (zi 0), .ref ao]) (As := []) (name := "java/lang/IllegalStateException") [] ⟨0, 8, 11, 13⟩ [] (tgt := 11) hX htab (fun _ h => absurd h List.not_mem_nil) (by decide) (by decide) hl_13 (by decide) rfl hl.1 (m_kiosk_s hI hfl σ (by omega)) (cwV 0 hts gL_kiosk_X7_kiosk rfl rfl rfl (by decide +kernel) ⟨Nat.le_of_ble_eq_true rfl, Nat.le_of_ble_eq_true rfl⟩) (rc_KR hC hW) hW hS ⟨Nat.le_of_ble_eq_true rfl, Nat.le_of_ble_eq_true rfl⟩ rfl rfl (Nat.le_of_ble_eq_true rfl) dL_kiosk_3 (fun H locs q hW hS hz hk => ?_)
    have hO := wo_kept (fun t i x y => (hWN.2 t i x y).1) hO hk
    have hD := wo_kept (fun t i x y => (hWN.2 t i x y).2) hD hk
    refine lv_astore_n (lv' := [(2, .ref q), (0, .ref (ad 0 0)), (1, .ref ao)]) hx hb dL_kiosk_11 rfl hl (by decide) rfl (fun ls hl => ?_)
    refine k_iconst hC dL_kiosk_12 ?_
    have hW := gh (u := 31) (i := 0) (j := 0) (v := 1) (fun _ _ => rfl) hW
    exact w_ret hX hW hO hD hS (Nat.le_refl _) (Nat.le_refl _) dL_kiosk_13
set_option maxHeartbeats 2000000 in
set_option maxRecDepth 100000 in
theorem w_start {l : Launch} {Dg : va_G} {cA : Nat → ClassId} {cL cD : ClassId} {ad : Nat → Int → Nat} {oc : Nat → Nat} {ao aD : Nat} (hI : WI ccnt ad) (hWN : WN ad ao aD) (hfl : l.stackTraces = false) {N M : Int} (σ : St) (k r : Int) (hv : Inv N M σ) (hN : N ≤ 1000000) (hM : 0 ≤ M ∧ M ≤ 1000000) (hr_k : -2147483648 ≤ k ∧ k < 2147483648) (hr_r : -2147483648 ≤ r ∧ r < 2147483648) (o : Int64) (d9 : UInt64) : GW l yL_start wsL_start ({ frames := 8, cells := 1, slots := 6, locals := 134 } : Room) Dg cA cL cD ad oc ao aD (cE cA ad σ) o d9 [.ref (ad 0 0), .int (zi k), .int (zi r), .ref ao] (cd_start σ k r) (cE cA ad (stp (cd_start σ k r) (fStart σ k r) σ)) (bx (cd_start σ k r) (zi (fStart σ k r 8 k 0)).toInt64 o) d9 := by
  have hA := hv.A
  unfold IvA at hA
  by_cases c0 : 0 ≤ k ∧ k < σ 27 0 0
  · have hS := (hv.S k (by omega) (by omega)).1
    by_cases c1 : 0 ≤ r ∧ r < σ 26 0 0
    · by_cases c2 : σ 6 k 0 = 0
      · have e : cd_start σ k r = 0 := by unfold cd_start; rw [if_pos c0, if_pos c1, if_pos c2]
        rw [e, stp_0, bx_0]
        intro sz
        refine w_ent (cc := cL_start) (maxL := 5) (ret := (some .int)) (hh := [(0, 10, 13, 19), (0, 10, 17, 13)]) (by decide) rfl hI (Nat.le_of_ble_eq_true rfl) ?_
        intro pgm env s₀ m₀ bel mth cod hX htab hK2 hNc hW hO hD hS hsz ls hl
        subst hsz
        have hC := hX.1
        have hx := hC.1
        have hb := hC.2.1
        have hts := hC.2.2.2.1
        have hl : lv_has ls 5 [(0, .ref (ad 0 0)), (1, .int (zi k)), (2, .int (zi r)), (3, .ref ao)] := hl
        refine lv_aload_n hx hb dL_start_0 rfl (lv_at hl 3 rfl) ?_
        refine k_iconst hC dL_start_1 ?_
        refine lv_aload_n hx hb dL_start_2 rfl (lv_at hl 0 rfl) ?_
        refine lv_iload_n hx hb dL_start_3 rfl (lv_at hl 1 rfl) ?_
        refine lv_iload_n hx hb dL_start_4 rfl (lv_at hl 2 rfl) ?_
        refine k_callI (As := [.int (zi k), .int (zi r)]) (rest := [.int (zi 0), .ref ao]) hX hl.1 (m_start hI σ k r hv (by omega) (by omega) (by omega)) (cwV 2 hts gL_start_X7_start rfl rfl rfl (by decide +kernel) ⟨Nat.le_of_ble_eq_true rfl, Nat.le_of_ble_eq_true rfl⟩) (rc_KR hC hW) hW hS ⟨Nat.zero_le _, Nat.zero_le _⟩ rfl rfl (Nat.le_of_ble_eq_true rfl) dL_start_5 (fun H locs hW hS hz hk => ?_)
        have hO := wo_kept (fun t i x y => (hWN.2 t i x y).1) hO hk
        have hD := wo_kept (fun t i x y => (hWN.2 t i x y).2) hD hk
        refine lv_i2l hx hb dL_start_8 rfl ?_
        refine w_last hC hK2 hWN (Or.inl rfl) hW hO hD hS dL_start_9 (fun H locs hW hO hD hS => ?_)
        refine lv_goto (tgt := 21) hx hb dL_start_10 (by decide) ?_
        refine k_iconst hC dL_start_21 ?_
        exact w_ret hX hW hO hD hS (Nat.zero_le _) (Nat.zero_le _) dL_start_22
      · have e : cd_start σ k r = 2 := by unfold cd_start; rw [if_pos c0, if_pos c1, if_neg c2]
        rw [e, stp_1 (by decide), bx_1 (by decide)]
        intro sz
        refine w_ent (cc := cL_start) (maxL := 5) (ret := (some .int)) (hh := [(0, 10, 13, 19), (0, 10, 17, 13)]) (by decide) rfl hI (Nat.le_of_ble_eq_true rfl) ?_
        intro pgm env s₀ m₀ bel mth cod hX htab hK2 hNc hW hO hD hS hsz ls hl
        subst hsz
        have hC := hX.1
        have hx := hC.1
        have hb := hC.2.1
        have hts := hC.2.2.2.1
        have hl : lv_has ls 5 [(0, .ref (ad 0 0)), (1, .int (zi k)), (2, .int (zi r)), (3, .ref ao)] := hl
        refine lv_aload_n hx hb dL_start_0 rfl (lv_at hl 3 rfl) ?_
        refine k_iconst hC dL_start_1 ?_
        refine lv_aload_n hx hb dL_start_2 rfl (lv_at hl 0 rfl) ?_
        refine lv_iload_n hx hb dL_start_3 rfl (lv_at hl 1 rfl) ?_
        refine lv_iload_n hx hb dL_start_4 rfl (lv_at hl 2 rfl) ?_
        have hl_19 := hts (.classLink RL 19 "java/lang/IndexOutOfBoundsException") (by decide +kernel)
        have hl_13 := hts (.classLink RL 13 "java/lang/IllegalStateException") (by decide +kernel)
        refine w_caught (rest := [.int (zi 0), .ref ao]) (As := [.int (zi k), .int (zi r)]) (name := "java/lang/IllegalStateException") [⟨0, 10, 13, 19⟩] ⟨0, 10, 17, 13⟩ [] (tgt := 17) hX htab (List.forall_mem_cons.mpr ⟨⟨by decide, _, hl_19, hNc ("java/lang/IllegalStateException", "java/lang/IndexOutOfBoundsException") (by decide)⟩, (fun _ h => absurd h List.not_mem_nil)⟩) (by decide) (by decide) hl_13 (by decide) rfl hl.1 (m_start_s hI hfl σ k r hv (by omega) (by omega) (by omega)) (cwV 2 hts gL_start_X7_start rfl rfl rfl (by decide +kernel) ⟨Nat.le_of_ble_eq_true rfl, Nat.le_of_ble_eq_true rfl⟩) (rc_KR hC hW) hW hS ⟨Nat.le_of_ble_eq_true rfl, Nat.le_of_ble_eq_true rfl⟩ rfl rfl (Nat.le_of_ble_eq_true rfl) dL_start_5 (fun H locs q hW hS hz hk => ?_)
        have hO := wo_kept (fun t i x y => (hWN.2 t i x y).1) hO hk
        have hD := wo_kept (fun t i x y => (hWN.2 t i x y).2) hD hk
        refine lv_astore (lv' := [(4, .ref q), (0, .ref (ad 0 0)), (1, .int (zi k)), (2, .int (zi r)), (3, .ref ao)]) hx hb dL_start_17 hl (by decide) rfl (fun ls hl => ?_)
        refine k_iconst hC dL_start_19 ?_
        have hW := gh (u := 31) (i := 0) (j := 0) (v := 2) (fun _ _ => rfl) hW
        exact w_ret hX hW hO hD hS (Nat.le_refl _) (Nat.le_refl _) dL_start_20
    · have e : cd_start σ k r = 1 := by unfold cd_start; rw [if_pos c0, if_neg c1]
      rw [e, stp_1 (by decide), bx_1 (by decide)]
      intro sz
      refine w_ent (cc := cL_start) (maxL := 5) (ret := (some .int)) (hh := [(0, 10, 13, 19), (0, 10, 17, 13)]) (by decide) rfl hI (Nat.le_of_ble_eq_true rfl) ?_
      intro pgm env s₀ m₀ bel mth cod hX htab hK2 hNc hW hO hD hS hsz ls hl
      subst hsz
      have hC := hX.1
      have hx := hC.1
      have hb := hC.2.1
      have hts := hC.2.2.2.1
      have hl : lv_has ls 5 [(0, .ref (ad 0 0)), (1, .int (zi k)), (2, .int (zi r)), (3, .ref ao)] := hl
      refine lv_aload_n hx hb dL_start_0 rfl (lv_at hl 3 rfl) ?_
      refine k_iconst hC dL_start_1 ?_
      refine lv_aload_n hx hb dL_start_2 rfl (lv_at hl 0 rfl) ?_
      refine lv_iload_n hx hb dL_start_3 rfl (lv_at hl 1 rfl) ?_
      refine lv_iload_n hx hb dL_start_4 rfl (lv_at hl 2 rfl) ?_
      have hl_19 := hts (.classLink RL 19 "java/lang/IndexOutOfBoundsException") (by decide +kernel)
      refine w_caught (rest := [.int (zi 0), .ref ao]) (As := [.int (zi k), .int (zi r)]) (name := "java/lang/IndexOutOfBoundsException") [] ⟨0, 10, 13, 19⟩ [⟨0, 10, 17, 13⟩] (tgt := 13) hX htab (fun _ h => absurd h List.not_mem_nil) (by decide) (by decide) hl_19 (by decide) rfl hl.1 (m_start_y hI hfl σ k r hv (by omega) (by omega) (by omega)) (cwV 2 hts gL_start_X7_start rfl rfl rfl (by decide +kernel) ⟨Nat.le_of_ble_eq_true rfl, Nat.le_of_ble_eq_true rfl⟩) (rc_KR hC hW) hW hS ⟨Nat.le_of_ble_eq_true rfl, Nat.le_of_ble_eq_true rfl⟩ rfl rfl (Nat.le_of_ble_eq_true rfl) dL_start_5 (fun H locs q hW hS hz hk => ?_)
      have hO := wo_kept (fun t i x y => (hWN.2 t i x y).1) hO hk
      have hD := wo_kept (fun t i x y => (hWN.2 t i x y).2) hD hk
      refine lv_astore (lv' := [(4, .ref q), (0, .ref (ad 0 0)), (1, .int (zi k)), (2, .int (zi r)), (3, .ref ao)]) hx hb dL_start_13 hl (by decide) rfl (fun ls hl => ?_)
      refine k_iconst hC dL_start_15 ?_
      have hW := gh (u := 31) (i := 0) (j := 0) (v := 1) (fun _ _ => rfl) hW
      exact w_ret hX hW hO hD hS (Nat.le_refl _) (Nat.le_refl _) dL_start_16
  · have e : cd_start σ k r = 1 := by unfold cd_start; rw [if_neg c0]
    rw [e, stp_1 (by decide), bx_1 (by decide)]
    intro sz
    refine w_ent (cc := cL_start) (maxL := 5) (ret := (some .int)) (hh := [(0, 10, 13, 19), (0, 10, 17, 13)]) (by decide) rfl hI (Nat.le_of_ble_eq_true rfl) ?_
    intro pgm env s₀ m₀ bel mth cod hX htab hK2 hNc hW hO hD hS hsz ls hl
    subst hsz
    have hC := hX.1
    have hx := hC.1
    have hb := hC.2.1
    have hts := hC.2.2.2.1
    have hl : lv_has ls 5 [(0, .ref (ad 0 0)), (1, .int (zi k)), (2, .int (zi r)), (3, .ref ao)] := hl
    refine lv_aload_n hx hb dL_start_0 rfl (lv_at hl 3 rfl) ?_
    refine k_iconst hC dL_start_1 ?_
    refine lv_aload_n hx hb dL_start_2 rfl (lv_at hl 0 rfl) ?_
    refine lv_iload_n hx hb dL_start_3 rfl (lv_at hl 1 rfl) ?_
    refine lv_iload_n hx hb dL_start_4 rfl (lv_at hl 2 rfl) ?_
    have hl_19 := hts (.classLink RL 19 "java/lang/IndexOutOfBoundsException") (by decide +kernel)
    refine w_caught (rest := [.int (zi 0), .ref ao]) (As := [.int (zi k), .int (zi r)]) (name := "java/lang/IndexOutOfBoundsException") [] ⟨0, 10, 13, 19⟩ [⟨0, 10, 17, 13⟩] (tgt := 13) hX htab (fun _ h => absurd h List.not_mem_nil) (by decide) (by decide) hl_19 (by decide) rfl hl.1 (m_start_x hI hfl σ k r hv (by omega) (by omega)) (cwV 2 hts gL_start_X7_start rfl rfl rfl (by decide +kernel) ⟨Nat.le_of_ble_eq_true rfl, Nat.le_of_ble_eq_true rfl⟩) (rc_KR hC hW) hW hS ⟨Nat.le_of_ble_eq_true rfl, Nat.le_of_ble_eq_true rfl⟩ rfl rfl (Nat.le_of_ble_eq_true rfl) dL_start_5 (fun H locs q hW hS hz hk => ?_)
    have hO := wo_kept (fun t i x y => (hWN.2 t i x y).1) hO hk
    have hD := wo_kept (fun t i x y => (hWN.2 t i x y).2) hD hk
    refine lv_astore (lv' := [(4, .ref q), (0, .ref (ad 0 0)), (1, .int (zi k)), (2, .int (zi r)), (3, .ref ao)]) hx hb dL_start_13 hl (by decide) rfl (fun ls hl => ?_)
    refine k_iconst hC dL_start_15 ?_
    have hW := gh (u := 31) (i := 0) (j := 0) (v := 1) (fun _ _ => rfl) hW
    exact w_ret hX hW hO hD hS (Nat.le_refl _) (Nat.le_refl _) dL_start_16
set_option maxHeartbeats 2000000 in
set_option maxRecDepth 100000 in
theorem w_stop {l : Launch} {Dg : va_G} {cA : Nat → ClassId} {cL cD : ClassId} {ad : Nat → Int → Nat} {oc : Nat → Nat} {ao aD : Nat} (hI : WI ccnt ad) (hWN : WN ad ao aD) (hfl : l.stackTraces = false) {N M : Int} (σ : St) (k : Int) (hv : Inv N M σ) (hN : N ≤ 1000000) (hM : 0 ≤ M ∧ M ≤ 1000000) (hr_k : -2147483648 ≤ k ∧ k < 2147483648) (o : Int64) (d9 : UInt64) : GW l yL_stop wsL_stop ({ frames := 9, cells := 1, slots := 6, locals := 155 } : Room) Dg cA cL cD ad oc ao aD (cE cA ad σ) o d9 [.ref (ad 0 0), .int (zi k), .ref ao] (cd_stop σ k) (cE cA ad (stp (cd_stop σ k) (fStop σ k) σ)) (bx (cd_stop σ k) (zi (held σ k)).toInt64 o) d9 := by
  have hA := hv.A
  unfold IvA at hA
  by_cases c0 : 0 ≤ k ∧ k < σ 27 0 0
  · have hS := (hv.S k (by omega) (by omega)).1
    by_cases c1 : σ 6 k 0 = 1
    · have e : cd_stop σ k = 0 := by unfold cd_stop; rw [if_pos c0, if_pos c1]
      rw [e, stp_0, bx_0]
      intro sz
      refine w_ent (cc := cL_stop) (maxL := 4) (ret := (some .int)) (hh := [(0, 9, 12, 19), (0, 9, 15, 42)]) (by decide) rfl hI (Nat.le_of_ble_eq_true rfl) ?_
      intro pgm env s₀ m₀ bel mth cod hX htab hK2 hNc hW hO hD hS hsz ls hl
      subst hsz
      have hC := hX.1
      have hx := hC.1
      have hb := hC.2.1
      have hts := hC.2.2.2.1
      have hl : lv_has ls 4 [(0, .ref (ad 0 0)), (1, .int (zi k)), (2, .ref ao)] := hl
      refine lv_aload_n hx hb dL_stop_0 rfl (lv_at hl 2 rfl) ?_
      refine k_iconst hC dL_stop_1 ?_
      refine lv_aload_n hx hb dL_stop_2 rfl (lv_at hl 0 rfl) ?_
      refine lv_iload_n hx hb dL_stop_3 rfl (lv_at hl 1 rfl) ?_
      refine k_callI (As := [.int (zi k)]) (rest := [.int (zi 0), .ref ao]) hX hl.1 (m_stop hI σ k hv (by omega) (by omega)) (cwV 1 hts gL_stop_X7_stop rfl rfl rfl (by decide +kernel) ⟨Nat.le_of_ble_eq_true rfl, Nat.le_of_ble_eq_true rfl⟩) (rc_KR hC hW) hW hS ⟨Nat.zero_le _, Nat.zero_le _⟩ rfl rfl (Nat.le_of_ble_eq_true rfl) dL_stop_4 (fun H locs hW hS hz hk => ?_)
      have hO := wo_kept (fun t i x y => (hWN.2 t i x y).1) hO hk
      have hD := wo_kept (fun t i x y => (hWN.2 t i x y).2) hD hk
      refine lv_i2l hx hb dL_stop_7 rfl ?_
      refine w_last hC hK2 hWN (Or.inl rfl) hW hO hD hS dL_stop_8 (fun H locs hW hO hD hS => ?_)
      refine lv_goto (tgt := 18) hx hb dL_stop_9 (by decide) ?_
      refine k_iconst hC dL_stop_18 ?_
      exact w_ret hX hW hO hD hS (Nat.zero_le _) (Nat.zero_le _) dL_stop_19
    · have e : cd_stop σ k = 2 := by unfold cd_stop; rw [if_pos c0, if_neg c1]
      rw [e, stp_1 (by decide), bx_1 (by decide)]
      intro sz
      refine w_ent (cc := cL_stop) (maxL := 4) (ret := (some .int)) (hh := [(0, 9, 12, 19), (0, 9, 15, 42)]) (by decide) rfl hI (Nat.le_of_ble_eq_true rfl) ?_
      intro pgm env s₀ m₀ bel mth cod hX htab hK2 hNc hW hO hD hS hsz ls hl
      subst hsz
      have hC := hX.1
      have hx := hC.1
      have hb := hC.2.1
      have hts := hC.2.2.2.1
      have hl : lv_has ls 4 [(0, .ref (ad 0 0)), (1, .int (zi k)), (2, .ref ao)] := hl
      refine lv_aload_n hx hb dL_stop_0 rfl (lv_at hl 2 rfl) ?_
      refine k_iconst hC dL_stop_1 ?_
      refine lv_aload_n hx hb dL_stop_2 rfl (lv_at hl 0 rfl) ?_
      refine lv_iload_n hx hb dL_stop_3 rfl (lv_at hl 1 rfl) ?_
      have hl_19 := hts (.classLink RL 19 "java/lang/IndexOutOfBoundsException") (by decide +kernel)
      have hl_42 := hts (.classLink RL 42 "java/util/NoSuchElementException") (by decide +kernel)
      refine w_caught (rest := [.int (zi 0), .ref ao]) (As := [.int (zi k)]) (name := "java/util/NoSuchElementException") [⟨0, 9, 12, 19⟩] ⟨0, 9, 15, 42⟩ [] (tgt := 15) hX htab (List.forall_mem_cons.mpr ⟨⟨by decide, _, hl_19, hNc ("java/util/NoSuchElementException", "java/lang/IndexOutOfBoundsException") (by decide)⟩, (fun _ h => absurd h List.not_mem_nil)⟩) (by decide) (by decide) hl_42 (by decide) rfl hl.1 (m_stop_n hI hfl σ k hv (by omega) (by omega)) (cwV 1 hts gL_stop_X7_stop rfl rfl rfl (by decide +kernel) ⟨Nat.le_of_ble_eq_true rfl, Nat.le_of_ble_eq_true rfl⟩) (rc_KR hC hW) hW hS ⟨Nat.le_of_ble_eq_true rfl, Nat.le_of_ble_eq_true rfl⟩ rfl rfl (Nat.le_of_ble_eq_true rfl) dL_stop_4 (fun H locs q hW hS hz hk => ?_)
      have hO := wo_kept (fun t i x y => (hWN.2 t i x y).1) hO hk
      have hD := wo_kept (fun t i x y => (hWN.2 t i x y).2) hD hk
      refine lv_astore_n (lv' := [(3, .ref q), (0, .ref (ad 0 0)), (1, .int (zi k)), (2, .ref ao)]) hx hb dL_stop_15 rfl hl (by decide) rfl (fun ls hl => ?_)
      refine k_iconst hC dL_stop_16 ?_
      have hW := gh (u := 31) (i := 0) (j := 0) (v := 2) (fun _ _ => rfl) hW
      exact w_ret hX hW hO hD hS (Nat.le_refl _) (Nat.le_refl _) dL_stop_17
  · have e : cd_stop σ k = 1 := by unfold cd_stop; rw [if_neg c0]
    rw [e, stp_1 (by decide), bx_1 (by decide)]
    intro sz
    refine w_ent (cc := cL_stop) (maxL := 4) (ret := (some .int)) (hh := [(0, 9, 12, 19), (0, 9, 15, 42)]) (by decide) rfl hI (Nat.le_of_ble_eq_true rfl) ?_
    intro pgm env s₀ m₀ bel mth cod hX htab hK2 hNc hW hO hD hS hsz ls hl
    subst hsz
    have hC := hX.1
    have hx := hC.1
    have hb := hC.2.1
    have hts := hC.2.2.2.1
    have hl : lv_has ls 4 [(0, .ref (ad 0 0)), (1, .int (zi k)), (2, .ref ao)] := hl
    refine lv_aload_n hx hb dL_stop_0 rfl (lv_at hl 2 rfl) ?_
    refine k_iconst hC dL_stop_1 ?_
    refine lv_aload_n hx hb dL_stop_2 rfl (lv_at hl 0 rfl) ?_
    refine lv_iload_n hx hb dL_stop_3 rfl (lv_at hl 1 rfl) ?_
    have hl_19 := hts (.classLink RL 19 "java/lang/IndexOutOfBoundsException") (by decide +kernel)
    refine w_caught (rest := [.int (zi 0), .ref ao]) (As := [.int (zi k)]) (name := "java/lang/IndexOutOfBoundsException") [] ⟨0, 9, 12, 19⟩ [⟨0, 9, 15, 42⟩] (tgt := 12) hX htab (fun _ h => absurd h List.not_mem_nil) (by decide) (by decide) hl_19 (by decide) rfl hl.1 (m_stop_x hI hfl σ k hv (by omega) (by omega)) (cwV 1 hts gL_stop_X7_stop rfl rfl rfl (by decide +kernel) ⟨Nat.le_of_ble_eq_true rfl, Nat.le_of_ble_eq_true rfl⟩) (rc_KR hC hW) hW hS ⟨Nat.le_of_ble_eq_true rfl, Nat.le_of_ble_eq_true rfl⟩ rfl rfl (Nat.le_of_ble_eq_true rfl) dL_stop_4 (fun H locs q hW hS hz hk => ?_)
    have hO := wo_kept (fun t i x y => (hWN.2 t i x y).1) hO hk
    have hD := wo_kept (fun t i x y => (hWN.2 t i x y).2) hD hk
    refine lv_astore_n (lv' := [(3, .ref q), (0, .ref (ad 0 0)), (1, .int (zi k)), (2, .ref ao)]) hx hb dL_stop_12 rfl hl (by decide) rfl (fun ls hl => ?_)
    refine k_iconst hC dL_stop_13 ?_
    have hW := gh (u := 31) (i := 0) (j := 0) (v := 1) (fun _ _ => rfl) hW
    exact w_ret hX hW hO hD hS (Nat.le_refl _) (Nat.le_refl _) dL_stop_14
set_option maxHeartbeats 2000000 in
set_option maxRecDepth 100000 in
theorem w_freeze {l : Launch} {Dg : va_G} {cA : Nat → ClassId} {cL cD : ClassId} {ad : Nat → Int → Nat} {oc : Nat → Nat} {ao aD : Nat} (hI : WI ccnt ad) (hWN : WN ad ao aD) (hfl : l.stackTraces = false) {N M : Int} (σ : St) (k : Int) (hv : Inv N M σ) (hN : N ≤ 1000000) (hM : 0 ≤ M ∧ M ≤ 1000000) (hr_k : -2147483648 ≤ k ∧ k < 2147483648) (o : Int64) (d9 : UInt64) : GW l yL_freeze wsL_freeze ({ frames := 8, cells := 1, slots := 6, locals := 133 } : Room) Dg cA cL cD ad oc ao aD (cE cA ad σ) o d9 [.ref (ad 0 0), .int (zi k), .ref ao] (cd_freeze σ k) (cE cA ad (stp (cd_freeze σ k) (ups σ 12 k 0 1) σ)) (bx (cd_freeze σ k) (zi (if σ 12 k 0 = 0 then 1 else 0)).toInt64 o) d9 := by
  have hA := hv.A
  unfold IvA at hA
  by_cases c0 : 0 ≤ k ∧ k < σ 27 0 0
  · have e : cd_freeze σ k = 0 := by unfold cd_freeze; rw [if_pos c0]
    rw [e, stp_0, bx_0]
    by_cases z : σ 12 k 0 = 0
    · rw [show (zi (if σ 12 k 0 = 0 then 1 else 0)).toInt64 = 1 from by rw [if_pos z]; decide]
      intro sz
      refine w_ent (cc := cL_freeze) (maxL := 4) (ret := (some .int)) (hh := [(0, 16, 19, 19)]) (by decide) rfl hI (Nat.le_of_ble_eq_true rfl) ?_
      intro pgm env s₀ m₀ bel mth cod hX htab hK2 hNc hW hO hD hS hsz ls hl
      subst hsz
      have hC := hX.1
      have hx := hC.1
      have hb := hC.2.1
      have hts := hC.2.2.2.1
      have hl : lv_has ls 4 [(0, .ref (ad 0 0)), (1, .int (zi k)), (2, .ref ao)] := hl
      refine lv_aload_n hx hb dL_freeze_0 rfl (lv_at hl 2 rfl) ?_
      refine k_iconst hC dL_freeze_1 ?_
      refine lv_aload_n hx hb dL_freeze_2 rfl (lv_at hl 0 rfl) ?_
      refine lv_iload_n hx hb dL_freeze_3 rfl (lv_at hl 1 rfl) ?_
      refine k_callI (As := [.int (zi k)]) (rest := [.int (zi 0), .ref ao]) hX hl.1 (m_freeze hI σ k hv (by omega)) (cwV 1 hts gL_freeze_X7_freeze rfl rfl rfl (by decide +kernel) ⟨Nat.le_of_ble_eq_true rfl, Nat.le_of_ble_eq_true rfl⟩) (rc_KR hC hW) hW hS ⟨Nat.zero_le _, Nat.zero_le _⟩ rfl rfl (Nat.le_of_ble_eq_true rfl) dL_freeze_4 (fun H locs hW hS hz hk => ?_)
      have hO := wo_kept (fun t i x y => (hWN.2 t i x y).1) hO hk
      have hD := wo_kept (fun t i x y => (hWN.2 t i x y).2) hD hk
      refine k_top0 (if_pos z) ?_
      refine k_if_eq (tgt := 14) hC dL_freeze_7 (by decide) (by decide) (fun c => absurd c (by decide)) (fun _ => ?_)
      refine lv_lconst (v := 1) hx hb dL_freeze_10 (by decide) ?_
      refine lv_goto (tgt := 15) hx hb dL_freeze_11 (by decide) ?_
      refine w_last hC hK2 hWN (Or.inl rfl) hW hO hD hS dL_freeze_15 (fun H locs hW hO hD hS => ?_)
      refine lv_goto (tgt := 22) hx hb dL_freeze_16 (by decide) ?_
      refine k_iconst hC dL_freeze_22 ?_
      exact w_ret hX hW hO hD hS (Nat.zero_le _) (Nat.zero_le _) dL_freeze_23
    · rw [show (zi (if σ 12 k 0 = 0 then 1 else 0)).toInt64 = 0 from by rw [if_neg z]; decide]
      intro sz
      refine w_ent (cc := cL_freeze) (maxL := 4) (ret := (some .int)) (hh := [(0, 16, 19, 19)]) (by decide) rfl hI (Nat.le_of_ble_eq_true rfl) ?_
      intro pgm env s₀ m₀ bel mth cod hX htab hK2 hNc hW hO hD hS hsz ls hl
      subst hsz
      have hC := hX.1
      have hx := hC.1
      have hb := hC.2.1
      have hts := hC.2.2.2.1
      have hl : lv_has ls 4 [(0, .ref (ad 0 0)), (1, .int (zi k)), (2, .ref ao)] := hl
      refine lv_aload_n hx hb dL_freeze_0 rfl (lv_at hl 2 rfl) ?_
      refine k_iconst hC dL_freeze_1 ?_
      refine lv_aload_n hx hb dL_freeze_2 rfl (lv_at hl 0 rfl) ?_
      refine lv_iload_n hx hb dL_freeze_3 rfl (lv_at hl 1 rfl) ?_
      refine k_callI (As := [.int (zi k)]) (rest := [.int (zi 0), .ref ao]) hX hl.1 (m_freeze hI σ k hv (by omega)) (cwV 1 hts gL_freeze_X7_freeze rfl rfl rfl (by decide +kernel) ⟨Nat.le_of_ble_eq_true rfl, Nat.le_of_ble_eq_true rfl⟩) (rc_KR hC hW) hW hS ⟨Nat.zero_le _, Nat.zero_le _⟩ rfl rfl (Nat.le_of_ble_eq_true rfl) dL_freeze_4 (fun H locs hW hS hz hk => ?_)
      have hO := wo_kept (fun t i x y => (hWN.2 t i x y).1) hO hk
      have hD := wo_kept (fun t i x y => (hWN.2 t i x y).2) hD hk
      refine k_top0 (if_neg z) ?_
      refine k_if_eq (tgt := 14) hC dL_freeze_7 (by decide) (by decide) (fun _ => ?_) (fun c => absurd rfl c)
      refine lv_lconst (v := 0) hx hb dL_freeze_14 (by decide) ?_
      refine w_last hC hK2 hWN (Or.inl rfl) hW hO hD hS dL_freeze_15 (fun H locs hW hO hD hS => ?_)
      refine lv_goto (tgt := 22) hx hb dL_freeze_16 (by decide) ?_
      refine k_iconst hC dL_freeze_22 ?_
      exact w_ret hX hW hO hD hS (Nat.zero_le _) (Nat.zero_le _) dL_freeze_23
  · have e : cd_freeze σ k = 1 := by unfold cd_freeze; rw [if_neg c0]
    rw [e, stp_1 (by decide), bx_1 (by decide)]
    intro sz
    refine w_ent (cc := cL_freeze) (maxL := 4) (ret := (some .int)) (hh := [(0, 16, 19, 19)]) (by decide) rfl hI (Nat.le_of_ble_eq_true rfl) ?_
    intro pgm env s₀ m₀ bel mth cod hX htab hK2 hNc hW hO hD hS hsz ls hl
    subst hsz
    have hC := hX.1
    have hx := hC.1
    have hb := hC.2.1
    have hts := hC.2.2.2.1
    have hl : lv_has ls 4 [(0, .ref (ad 0 0)), (1, .int (zi k)), (2, .ref ao)] := hl
    refine lv_aload_n hx hb dL_freeze_0 rfl (lv_at hl 2 rfl) ?_
    refine k_iconst hC dL_freeze_1 ?_
    refine lv_aload_n hx hb dL_freeze_2 rfl (lv_at hl 0 rfl) ?_
    refine lv_iload_n hx hb dL_freeze_3 rfl (lv_at hl 1 rfl) ?_
    have hl_19 := hts (.classLink RL 19 "java/lang/IndexOutOfBoundsException") (by decide +kernel)
    refine w_caught (rest := [.int (zi 0), .ref ao]) (As := [.int (zi k)]) (name := "java/lang/IndexOutOfBoundsException") [] ⟨0, 16, 19, 19⟩ [] (tgt := 19) hX htab (fun _ h => absurd h List.not_mem_nil) (by decide) (by decide) hl_19 (by decide) rfl hl.1 (m_freeze_x hI hfl σ k hv (by omega) (by omega)) (cwV 1 hts gL_freeze_X7_freeze rfl rfl rfl (by decide +kernel) ⟨Nat.le_of_ble_eq_true rfl, Nat.le_of_ble_eq_true rfl⟩) (rc_KR hC hW) hW hS ⟨Nat.le_of_ble_eq_true rfl, Nat.le_of_ble_eq_true rfl⟩ rfl rfl (Nat.le_of_ble_eq_true rfl) dL_freeze_4 (fun H locs q hW hS hz hk => ?_)
    have hO := wo_kept (fun t i x y => (hWN.2 t i x y).1) hO hk
    have hD := wo_kept (fun t i x y => (hWN.2 t i x y).2) hD hk
    refine lv_astore_n (lv' := [(3, .ref q), (0, .ref (ad 0 0)), (1, .int (zi k)), (2, .ref ao)]) hx hb dL_freeze_19 rfl hl (by decide) rfl (fun ls hl => ?_)
    refine k_iconst hC dL_freeze_20 ?_
    have hW := gh (u := 31) (i := 0) (j := 0) (v := 1) (fun _ _ => rfl) hW
    exact w_ret hX hW hO hD hS (Nat.le_refl _) (Nat.le_refl _) dL_freeze_21
set_option maxHeartbeats 2000000 in
set_option maxRecDepth 100000 in
theorem w_thaw {l : Launch} {Dg : va_G} {cA : Nat → ClassId} {cL cD : ClassId} {ad : Nat → Int → Nat} {oc : Nat → Nat} {ao aD : Nat} (hI : WI ccnt ad) (hWN : WN ad ao aD) (hfl : l.stackTraces = false) {N M : Int} (σ : St) (k : Int) (hv : Inv N M σ) (hN : N ≤ 1000000) (hM : 0 ≤ M ∧ M ≤ 1000000) (hr_k : -2147483648 ≤ k ∧ k < 2147483648) (o : Int64) (d9 : UInt64) : GW l yL_thaw wsL_thaw ({ frames := 8, cells := 1, slots := 6, locals := 134 } : Room) Dg cA cL cD ad oc ao aD (cE cA ad σ) o d9 [.ref (ad 0 0), .int (zi k), .ref ao] (cd_thaw σ k) (cE cA ad (stp (cd_thaw σ k) (fThaw σ k) σ)) (bx (cd_thaw σ k) (zi (aThaw σ k)).toInt64 o) d9 := by
  have hA := hv.A
  unfold IvA at hA
  by_cases c0 : 0 ≤ k ∧ k < σ 27 0 0
  · have e : cd_thaw σ k = 0 := by unfold cd_thaw; rw [if_pos c0]
    rw [e, stp_0, bx_0]
    intro sz
    refine w_ent (cc := cL_thaw) (maxL := 4) (ret := (some .int)) (hh := [(0, 9, 12, 19)]) (by decide) rfl hI (Nat.le_of_ble_eq_true rfl) ?_
    intro pgm env s₀ m₀ bel mth cod hX htab hK2 hNc hW hO hD hS hsz ls hl
    subst hsz
    have hC := hX.1
    have hx := hC.1
    have hb := hC.2.1
    have hts := hC.2.2.2.1
    have hl : lv_has ls 4 [(0, .ref (ad 0 0)), (1, .int (zi k)), (2, .ref ao)] := hl
    refine lv_aload_n hx hb dL_thaw_0 rfl (lv_at hl 2 rfl) ?_
    refine k_iconst hC dL_thaw_1 ?_
    refine lv_aload_n hx hb dL_thaw_2 rfl (lv_at hl 0 rfl) ?_
    refine lv_iload_n hx hb dL_thaw_3 rfl (lv_at hl 1 rfl) ?_
    refine k_callI (As := [.int (zi k)]) (rest := [.int (zi 0), .ref ao]) hX hl.1 (m_thaw hI σ k hv (by omega) (by omega)) (cwV 1 hts gL_thaw_X7_thaw rfl rfl rfl (by decide +kernel) ⟨Nat.le_of_ble_eq_true rfl, Nat.le_of_ble_eq_true rfl⟩) (rc_KR hC hW) hW hS ⟨Nat.zero_le _, Nat.zero_le _⟩ rfl rfl (Nat.le_of_ble_eq_true rfl) dL_thaw_4 (fun H locs hW hS hz hk => ?_)
    have hO := wo_kept (fun t i x y => (hWN.2 t i x y).1) hO hk
    have hD := wo_kept (fun t i x y => (hWN.2 t i x y).2) hD hk
    refine lv_i2l hx hb dL_thaw_7 rfl ?_
    refine w_last hC hK2 hWN (Or.inl rfl) hW hO hD hS dL_thaw_8 (fun H locs hW hO hD hS => ?_)
    refine lv_goto (tgt := 15) hx hb dL_thaw_9 (by decide) ?_
    refine k_iconst hC dL_thaw_15 ?_
    exact w_ret hX hW hO hD hS (Nat.zero_le _) (Nat.zero_le _) dL_thaw_16
  · have e : cd_thaw σ k = 1 := by unfold cd_thaw; rw [if_neg c0]
    rw [e, stp_1 (by decide), bx_1 (by decide)]
    intro sz
    refine w_ent (cc := cL_thaw) (maxL := 4) (ret := (some .int)) (hh := [(0, 9, 12, 19)]) (by decide) rfl hI (Nat.le_of_ble_eq_true rfl) ?_
    intro pgm env s₀ m₀ bel mth cod hX htab hK2 hNc hW hO hD hS hsz ls hl
    subst hsz
    have hC := hX.1
    have hx := hC.1
    have hb := hC.2.1
    have hts := hC.2.2.2.1
    have hl : lv_has ls 4 [(0, .ref (ad 0 0)), (1, .int (zi k)), (2, .ref ao)] := hl
    refine lv_aload_n hx hb dL_thaw_0 rfl (lv_at hl 2 rfl) ?_
    refine k_iconst hC dL_thaw_1 ?_
    refine lv_aload_n hx hb dL_thaw_2 rfl (lv_at hl 0 rfl) ?_
    refine lv_iload_n hx hb dL_thaw_3 rfl (lv_at hl 1 rfl) ?_
    have hl_19 := hts (.classLink RL 19 "java/lang/IndexOutOfBoundsException") (by decide +kernel)
    refine w_caught (rest := [.int (zi 0), .ref ao]) (As := [.int (zi k)]) (name := "java/lang/IndexOutOfBoundsException") [] ⟨0, 9, 12, 19⟩ [] (tgt := 12) hX htab (fun _ h => absurd h List.not_mem_nil) (by decide) (by decide) hl_19 (by decide) rfl hl.1 (m_thaw_x hI hfl σ k hv (by omega) (by omega)) (cwV 1 hts gL_thaw_X7_thaw rfl rfl rfl (by decide +kernel) ⟨Nat.le_of_ble_eq_true rfl, Nat.le_of_ble_eq_true rfl⟩) (rc_KR hC hW) hW hS ⟨Nat.le_of_ble_eq_true rfl, Nat.le_of_ble_eq_true rfl⟩ rfl rfl (Nat.le_of_ble_eq_true rfl) dL_thaw_4 (fun H locs q hW hS hz hk => ?_)
    have hO := wo_kept (fun t i x y => (hWN.2 t i x y).1) hO hk
    have hD := wo_kept (fun t i x y => (hWN.2 t i x y).2) hD hk
    refine lv_astore_n (lv' := [(3, .ref q), (0, .ref (ad 0 0)), (1, .int (zi k)), (2, .ref ao)]) hx hb dL_thaw_12 rfl hl (by decide) rfl (fun ls hl => ?_)
    refine k_iconst hC dL_thaw_13 ?_
    have hW := gh (u := 31) (i := 0) (j := 0) (v := 1) (fun _ _ => rfl) hW
    exact w_ret hX hW hO hD hS (Nat.le_refl _) (Nat.le_refl _) dL_thaw_14
set_option maxHeartbeats 2000000 in
set_option maxRecDepth 100000 in
theorem w_state {l : Launch} {Dg : va_G} {cA : Nat → ClassId} {cL cD : ClassId} {ad : Nat → Int → Nat} {oc : Nat → Nat} {ao aD : Nat} (hI : WI ccnt ad) (hWN : WN ad ao aD) (hfl : l.stackTraces = false) {N M : Int} (σ : St) (k : Int) (hv : Inv N M σ) (hN : N ≤ 1000000) (hM : 0 ≤ M ∧ M ≤ 1000000) (hr_k : -2147483648 ≤ k ∧ k < 2147483648) (o : Int64) (d9 : UInt64) : GW l yL_state wsL_state ({ frames := 8, cells := 1, slots := 6, locals := 132 } : Room) Dg cA cL cD ad oc ao aD (cE cA ad σ) o d9 [.ref (ad 0 0), .int (zi k), .ref ao] (cd_state σ k) (cE cA ad (stp (cd_state σ k) σ σ)) (bx (cd_state σ k) (zi (if σ 13 k 0 ≠ 0 then 111 else if σ 12 k 0 ≠ 0 then 102 else 112)).toInt64 o) d9 := by
  have hA := hv.A
  unfold IvA at hA
  by_cases c0 : 0 ≤ k ∧ k < σ 27 0 0
  · have e : cd_state σ k = 0 := by unfold cd_state; rw [if_pos c0]
    rw [e, stp_0, bx_0]
    intro sz
    refine w_ent (cc := cL_state) (maxL := 4) (ret := (some .int)) (hh := [(0, 9, 12, 19)]) (by decide) rfl hI (Nat.le_of_ble_eq_true rfl) ?_
    intro pgm env s₀ m₀ bel mth cod hX htab hK2 hNc hW hO hD hS hsz ls hl
    subst hsz
    have hC := hX.1
    have hx := hC.1
    have hb := hC.2.1
    have hts := hC.2.2.2.1
    have hl : lv_has ls 4 [(0, .ref (ad 0 0)), (1, .int (zi k)), (2, .ref ao)] := hl
    refine lv_aload_n hx hb dL_state_0 rfl (lv_at hl 2 rfl) ?_
    refine k_iconst hC dL_state_1 ?_
    refine lv_aload_n hx hb dL_state_2 rfl (lv_at hl 0 rfl) ?_
    refine lv_iload_n hx hb dL_state_3 rfl (lv_at hl 1 rfl) ?_
    refine k_callI (As := [.int (zi k)]) (rest := [.int (zi 0), .ref ao]) hX hl.1 (m_state hI σ k hv (by omega)) (cwV 1 hts gL_state_X7_state rfl rfl rfl (by decide +kernel) ⟨Nat.le_of_ble_eq_true rfl, Nat.le_of_ble_eq_true rfl⟩) (rc_KR hC hW) hW hS ⟨Nat.zero_le _, Nat.zero_le _⟩ rfl rfl (Nat.le_of_ble_eq_true rfl) dL_state_4 (fun H locs hW hS hz hk => ?_)
    have hO := wo_kept (fun t i x y => (hWN.2 t i x y).1) hO hk
    have hD := wo_kept (fun t i x y => (hWN.2 t i x y).2) hD hk
    refine lv_i2l hx hb dL_state_7 rfl ?_
    refine w_last hC hK2 hWN (Or.inl rfl) hW hO hD hS dL_state_8 (fun H locs hW hO hD hS => ?_)
    refine lv_goto (tgt := 15) hx hb dL_state_9 (by decide) ?_
    refine k_iconst hC dL_state_15 ?_
    exact w_ret hX hW hO hD hS (Nat.zero_le _) (Nat.zero_le _) dL_state_16
  · have e : cd_state σ k = 1 := by unfold cd_state; rw [if_neg c0]
    rw [e, stp_1 (by decide), bx_1 (by decide)]
    intro sz
    refine w_ent (cc := cL_state) (maxL := 4) (ret := (some .int)) (hh := [(0, 9, 12, 19)]) (by decide) rfl hI (Nat.le_of_ble_eq_true rfl) ?_
    intro pgm env s₀ m₀ bel mth cod hX htab hK2 hNc hW hO hD hS hsz ls hl
    subst hsz
    have hC := hX.1
    have hx := hC.1
    have hb := hC.2.1
    have hts := hC.2.2.2.1
    have hl : lv_has ls 4 [(0, .ref (ad 0 0)), (1, .int (zi k)), (2, .ref ao)] := hl
    refine lv_aload_n hx hb dL_state_0 rfl (lv_at hl 2 rfl) ?_
    refine k_iconst hC dL_state_1 ?_
    refine lv_aload_n hx hb dL_state_2 rfl (lv_at hl 0 rfl) ?_
    refine lv_iload_n hx hb dL_state_3 rfl (lv_at hl 1 rfl) ?_
    have hl_19 := hts (.classLink RL 19 "java/lang/IndexOutOfBoundsException") (by decide +kernel)
    refine w_caught (rest := [.int (zi 0), .ref ao]) (As := [.int (zi k)]) (name := "java/lang/IndexOutOfBoundsException") [] ⟨0, 9, 12, 19⟩ [] (tgt := 12) hX htab (fun _ h => absurd h List.not_mem_nil) (by decide) (by decide) hl_19 (by decide) rfl hl.1 (m_state_x hI hfl σ k hv (by omega) (by omega)) (cwV 1 hts gL_state_X7_state rfl rfl rfl (by decide +kernel) ⟨Nat.le_of_ble_eq_true rfl, Nat.le_of_ble_eq_true rfl⟩) (rc_KR hC hW) hW hS ⟨Nat.le_of_ble_eq_true rfl, Nat.le_of_ble_eq_true rfl⟩ rfl rfl (Nat.le_of_ble_eq_true rfl) dL_state_4 (fun H locs q hW hS hz hk => ?_)
    have hO := wo_kept (fun t i x y => (hWN.2 t i x y).1) hO hk
    have hD := wo_kept (fun t i x y => (hWN.2 t i x y).2) hD hk
    refine lv_astore_n (lv' := [(3, .ref q), (0, .ref (ad 0 0)), (1, .int (zi k)), (2, .ref ao)]) hx hb dL_state_12 rfl hl (by decide) rfl (fun ls hl => ?_)
    refine k_iconst hC dL_state_13 ?_
    have hW := gh (u := 31) (i := 0) (j := 0) (v := 1) (fun _ _ => rfl) hW
    exact w_ret hX hW hO hD hS (Nat.le_refl _) (Nat.le_refl _) dL_state_14
set_option maxHeartbeats 2000000 in
set_option maxRecDepth 100000 in
theorem w_plays {l : Launch} {Dg : va_G} {cA : Nat → ClassId} {cL cD : ClassId} {ad : Nat → Int → Nat} {oc : Nat → Nat} {ao aD : Nat} (hI : WI ccnt ad) (hWN : WN ad ao aD) (hfl : l.stackTraces = false) {N M : Int} (σ : St) (k : Int) (hv : Inv N M σ) (hN : N ≤ 1000000) (hM : 0 ≤ M ∧ M ≤ 1000000) (hr_k : -2147483648 ≤ k ∧ k < 2147483648) (o : Int64) (d9 : UInt64) : GW l yL_plays wsL_plays ({ frames := 9, cells := 1, slots := 6, locals := 153 } : Room) Dg cA cL cD ad oc ao aD (cE cA ad σ) o d9 [.ref (ad 0 0), .int (zi k), .ref ao] (cd_plays σ k) (cE cA ad (stp (cd_plays σ k) σ σ)) (bx (cd_plays σ k) (zi (σ 8 k 0)).toInt64 o) d9 := by
  have hA := hv.A
  unfold IvA at hA
  by_cases c0 : 0 ≤ k ∧ k < σ 27 0 0
  · have hS := (hv.S k (by omega) (by omega)).1
    by_cases c1 : σ 6 k 0 = 1
    · have e : cd_plays σ k = 0 := by unfold cd_plays; rw [if_pos c0, if_pos c1]
      rw [e, stp_0, bx_0]
      intro sz
      refine w_ent (cc := cL_plays) (maxL := 4) (ret := (some .int)) (hh := [(0, 9, 12, 19), (0, 9, 15, 42)]) (by decide) rfl hI (Nat.le_of_ble_eq_true rfl) ?_
      intro pgm env s₀ m₀ bel mth cod hX htab hK2 hNc hW hO hD hS hsz ls hl
      subst hsz
      have hC := hX.1
      have hx := hC.1
      have hb := hC.2.1
      have hts := hC.2.2.2.1
      have hl : lv_has ls 4 [(0, .ref (ad 0 0)), (1, .int (zi k)), (2, .ref ao)] := hl
      refine lv_aload_n hx hb dL_plays_0 rfl (lv_at hl 2 rfl) ?_
      refine k_iconst hC dL_plays_1 ?_
      refine lv_aload_n hx hb dL_plays_2 rfl (lv_at hl 0 rfl) ?_
      refine lv_iload_n hx hb dL_plays_3 rfl (lv_at hl 1 rfl) ?_
      refine k_callI (As := [.int (zi k)]) (rest := [.int (zi 0), .ref ao]) hX hl.1 (m_plays hI σ k hv (by omega) (by omega)) (cwV 1 hts gL_plays_X7_plays rfl rfl rfl (by decide +kernel) ⟨Nat.le_of_ble_eq_true rfl, Nat.le_of_ble_eq_true rfl⟩) (rc_KR hC hW) hW hS ⟨Nat.zero_le _, Nat.zero_le _⟩ rfl rfl (Nat.le_of_ble_eq_true rfl) dL_plays_4 (fun H locs hW hS hz hk => ?_)
      have hO := wo_kept (fun t i x y => (hWN.2 t i x y).1) hO hk
      have hD := wo_kept (fun t i x y => (hWN.2 t i x y).2) hD hk
      refine lv_i2l hx hb dL_plays_7 rfl ?_
      refine w_last hC hK2 hWN (Or.inl rfl) hW hO hD hS dL_plays_8 (fun H locs hW hO hD hS => ?_)
      refine lv_goto (tgt := 18) hx hb dL_plays_9 (by decide) ?_
      refine k_iconst hC dL_plays_18 ?_
      exact w_ret hX hW hO hD hS (Nat.zero_le _) (Nat.zero_le _) dL_plays_19
    · have e : cd_plays σ k = 2 := by unfold cd_plays; rw [if_pos c0, if_neg c1]
      rw [e, stp_1 (by decide), bx_1 (by decide)]
      intro sz
      refine w_ent (cc := cL_plays) (maxL := 4) (ret := (some .int)) (hh := [(0, 9, 12, 19), (0, 9, 15, 42)]) (by decide) rfl hI (Nat.le_of_ble_eq_true rfl) ?_
      intro pgm env s₀ m₀ bel mth cod hX htab hK2 hNc hW hO hD hS hsz ls hl
      subst hsz
      have hC := hX.1
      have hx := hC.1
      have hb := hC.2.1
      have hts := hC.2.2.2.1
      have hl : lv_has ls 4 [(0, .ref (ad 0 0)), (1, .int (zi k)), (2, .ref ao)] := hl
      refine lv_aload_n hx hb dL_plays_0 rfl (lv_at hl 2 rfl) ?_
      refine k_iconst hC dL_plays_1 ?_
      refine lv_aload_n hx hb dL_plays_2 rfl (lv_at hl 0 rfl) ?_
      refine lv_iload_n hx hb dL_plays_3 rfl (lv_at hl 1 rfl) ?_
      have hl_19 := hts (.classLink RL 19 "java/lang/IndexOutOfBoundsException") (by decide +kernel)
      have hl_42 := hts (.classLink RL 42 "java/util/NoSuchElementException") (by decide +kernel)
      refine w_caught (rest := [.int (zi 0), .ref ao]) (As := [.int (zi k)]) (name := "java/util/NoSuchElementException") [⟨0, 9, 12, 19⟩] ⟨0, 9, 15, 42⟩ [] (tgt := 15) hX htab (List.forall_mem_cons.mpr ⟨⟨by decide, _, hl_19, hNc ("java/util/NoSuchElementException", "java/lang/IndexOutOfBoundsException") (by decide)⟩, (fun _ h => absurd h List.not_mem_nil)⟩) (by decide) (by decide) hl_42 (by decide) rfl hl.1 (m_plays_n hI hfl σ k hv (by omega) (by omega)) (cwV 1 hts gL_plays_X7_plays rfl rfl rfl (by decide +kernel) ⟨Nat.le_of_ble_eq_true rfl, Nat.le_of_ble_eq_true rfl⟩) (rc_KR hC hW) hW hS ⟨Nat.le_of_ble_eq_true rfl, Nat.le_of_ble_eq_true rfl⟩ rfl rfl (Nat.le_of_ble_eq_true rfl) dL_plays_4 (fun H locs q hW hS hz hk => ?_)
      have hO := wo_kept (fun t i x y => (hWN.2 t i x y).1) hO hk
      have hD := wo_kept (fun t i x y => (hWN.2 t i x y).2) hD hk
      refine lv_astore_n (lv' := [(3, .ref q), (0, .ref (ad 0 0)), (1, .int (zi k)), (2, .ref ao)]) hx hb dL_plays_15 rfl hl (by decide) rfl (fun ls hl => ?_)
      refine k_iconst hC dL_plays_16 ?_
      have hW := gh (u := 31) (i := 0) (j := 0) (v := 2) (fun _ _ => rfl) hW
      exact w_ret hX hW hO hD hS (Nat.le_refl _) (Nat.le_refl _) dL_plays_17
  · have e : cd_plays σ k = 1 := by unfold cd_plays; rw [if_neg c0]
    rw [e, stp_1 (by decide), bx_1 (by decide)]
    intro sz
    refine w_ent (cc := cL_plays) (maxL := 4) (ret := (some .int)) (hh := [(0, 9, 12, 19), (0, 9, 15, 42)]) (by decide) rfl hI (Nat.le_of_ble_eq_true rfl) ?_
    intro pgm env s₀ m₀ bel mth cod hX htab hK2 hNc hW hO hD hS hsz ls hl
    subst hsz
    have hC := hX.1
    have hx := hC.1
    have hb := hC.2.1
    have hts := hC.2.2.2.1
    have hl : lv_has ls 4 [(0, .ref (ad 0 0)), (1, .int (zi k)), (2, .ref ao)] := hl
    refine lv_aload_n hx hb dL_plays_0 rfl (lv_at hl 2 rfl) ?_
    refine k_iconst hC dL_plays_1 ?_
    refine lv_aload_n hx hb dL_plays_2 rfl (lv_at hl 0 rfl) ?_
    refine lv_iload_n hx hb dL_plays_3 rfl (lv_at hl 1 rfl) ?_
    have hl_19 := hts (.classLink RL 19 "java/lang/IndexOutOfBoundsException") (by decide +kernel)
    refine w_caught (rest := [.int (zi 0), .ref ao]) (As := [.int (zi k)]) (name := "java/lang/IndexOutOfBoundsException") [] ⟨0, 9, 12, 19⟩ [⟨0, 9, 15, 42⟩] (tgt := 12) hX htab (fun _ h => absurd h List.not_mem_nil) (by decide) (by decide) hl_19 (by decide) rfl hl.1 (m_plays_x hI hfl σ k hv (by omega) (by omega)) (cwV 1 hts gL_plays_X7_plays rfl rfl rfl (by decide +kernel) ⟨Nat.le_of_ble_eq_true rfl, Nat.le_of_ble_eq_true rfl⟩) (rc_KR hC hW) hW hS ⟨Nat.le_of_ble_eq_true rfl, Nat.le_of_ble_eq_true rfl⟩ rfl rfl (Nat.le_of_ble_eq_true rfl) dL_plays_4 (fun H locs q hW hS hz hk => ?_)
    have hO := wo_kept (fun t i x y => (hWN.2 t i x y).1) hO hk
    have hD := wo_kept (fun t i x y => (hWN.2 t i x y).2) hD hk
    refine lv_astore_n (lv' := [(3, .ref q), (0, .ref (ad 0 0)), (1, .int (zi k)), (2, .ref ao)]) hx hb dL_plays_12 rfl hl (by decide) rfl (fun ls hl => ?_)
    refine k_iconst hC dL_plays_13 ?_
    have hW := gh (u := 31) (i := 0) (j := 0) (v := 1) (fun _ _ => rfl) hW
    exact w_ret hX hW hO hD hS (Nat.le_refl _) (Nat.le_refl _) dL_plays_14
set_option maxHeartbeats 2000000 in
set_option maxRecDepth 100000 in
theorem w_playerAt {l : Launch} {Dg : va_G} {cA : Nat → ClassId} {cL cD : ClassId} {ad : Nat → Int → Nat} {oc : Nat → Nat} {ao aD : Nat} (hI : WI ccnt ad) (hWN : WN ad ao aD) (hfl : l.stackTraces = false) {N M : Int} (σ : St) (k j : Int) (hv : Inv N M σ) (hN : N ≤ 1000000) (hM : 0 ≤ M ∧ M ≤ 1000000) (hr_k : -2147483648 ≤ k ∧ k < 2147483648) (hr_j : -2147483648 ≤ j ∧ j < 2147483648) (o : Int64) (d9 : UInt64) : GW l yL_playerAt wsL_playerAt ({ frames := 8, cells := 1, slots := 6, locals := 134 } : Room) Dg cA cL cD ad oc ao aD (cE cA ad σ) o d9 [.ref (ad 0 0), .int (zi k), .int (zi j), .ref ao] (cd_playerAt σ k j) (cE cA ad (stp (cd_playerAt σ k j) σ σ)) (bx (cd_playerAt σ k j) (zi (σ 16 k j)).toInt64 o) d9 := by
  have hA := hv.A
  unfold IvA at hA
  by_cases c0 : 0 ≤ k ∧ k < σ 27 0 0
  · by_cases c1 : 0 ≤ j ∧ j < σ 17 k 0
    · have e : cd_playerAt σ k j = 0 := by unfold cd_playerAt; rw [if_pos c0, if_pos c1]
      rw [e, stp_0, bx_0]
      intro sz
      refine w_ent (cc := cL_playerAt) (maxL := 5) (ret := (some .int)) (hh := [(0, 10, 13, 19), (0, 10, 17, 42)]) (by decide) rfl hI (Nat.le_of_ble_eq_true rfl) ?_
      intro pgm env s₀ m₀ bel mth cod hX htab hK2 hNc hW hO hD hS hsz ls hl
      subst hsz
      have hC := hX.1
      have hx := hC.1
      have hb := hC.2.1
      have hts := hC.2.2.2.1
      have hl : lv_has ls 5 [(0, .ref (ad 0 0)), (1, .int (zi k)), (2, .int (zi j)), (3, .ref ao)] := hl
      refine lv_aload_n hx hb dL_playerAt_0 rfl (lv_at hl 3 rfl) ?_
      refine k_iconst hC dL_playerAt_1 ?_
      refine lv_aload_n hx hb dL_playerAt_2 rfl (lv_at hl 0 rfl) ?_
      refine lv_iload_n hx hb dL_playerAt_3 rfl (lv_at hl 1 rfl) ?_
      refine lv_iload_n hx hb dL_playerAt_4 rfl (lv_at hl 2 rfl) ?_
      refine k_callI (As := [.int (zi k), .int (zi j)]) (rest := [.int (zi 0), .ref ao]) hX hl.1 (m_playerAt hI σ k j hv (by omega) (by omega)) (cwV 2 hts gL_playerAt_X7_playerAt rfl rfl rfl (by decide +kernel) ⟨Nat.le_of_ble_eq_true rfl, Nat.le_of_ble_eq_true rfl⟩) (rc_KR hC hW) hW hS ⟨Nat.zero_le _, Nat.zero_le _⟩ rfl rfl (Nat.le_of_ble_eq_true rfl) dL_playerAt_5 (fun H locs hW hS hz hk => ?_)
      have hO := wo_kept (fun t i x y => (hWN.2 t i x y).1) hO hk
      have hD := wo_kept (fun t i x y => (hWN.2 t i x y).2) hD hk
      refine lv_i2l hx hb dL_playerAt_8 rfl ?_
      refine w_last hC hK2 hWN (Or.inl rfl) hW hO hD hS dL_playerAt_9 (fun H locs hW hO hD hS => ?_)
      refine lv_goto (tgt := 21) hx hb dL_playerAt_10 (by decide) ?_
      refine k_iconst hC dL_playerAt_21 ?_
      exact w_ret hX hW hO hD hS (Nat.zero_le _) (Nat.zero_le _) dL_playerAt_22
    · have e : cd_playerAt σ k j = 2 := by unfold cd_playerAt; rw [if_pos c0, if_neg c1]
      rw [e, stp_1 (by decide), bx_1 (by decide)]
      intro sz
      refine w_ent (cc := cL_playerAt) (maxL := 5) (ret := (some .int)) (hh := [(0, 10, 13, 19), (0, 10, 17, 42)]) (by decide) rfl hI (Nat.le_of_ble_eq_true rfl) ?_
      intro pgm env s₀ m₀ bel mth cod hX htab hK2 hNc hW hO hD hS hsz ls hl
      subst hsz
      have hC := hX.1
      have hx := hC.1
      have hb := hC.2.1
      have hts := hC.2.2.2.1
      have hl : lv_has ls 5 [(0, .ref (ad 0 0)), (1, .int (zi k)), (2, .int (zi j)), (3, .ref ao)] := hl
      refine lv_aload_n hx hb dL_playerAt_0 rfl (lv_at hl 3 rfl) ?_
      refine k_iconst hC dL_playerAt_1 ?_
      refine lv_aload_n hx hb dL_playerAt_2 rfl (lv_at hl 0 rfl) ?_
      refine lv_iload_n hx hb dL_playerAt_3 rfl (lv_at hl 1 rfl) ?_
      refine lv_iload_n hx hb dL_playerAt_4 rfl (lv_at hl 2 rfl) ?_
      have hl_19 := hts (.classLink RL 19 "java/lang/IndexOutOfBoundsException") (by decide +kernel)
      have hl_42 := hts (.classLink RL 42 "java/util/NoSuchElementException") (by decide +kernel)
      refine w_caught (rest := [.int (zi 0), .ref ao]) (As := [.int (zi k), .int (zi j)]) (name := "java/util/NoSuchElementException") [⟨0, 10, 13, 19⟩] ⟨0, 10, 17, 42⟩ [] (tgt := 17) hX htab (List.forall_mem_cons.mpr ⟨⟨by decide, _, hl_19, hNc ("java/util/NoSuchElementException", "java/lang/IndexOutOfBoundsException") (by decide)⟩, (fun _ h => absurd h List.not_mem_nil)⟩) (by decide) (by decide) hl_42 (by decide) rfl hl.1 (m_playerAt_n hI hfl σ k j hv (by omega) (by omega) (by omega)) (cwV 2 hts gL_playerAt_X7_playerAt rfl rfl rfl (by decide +kernel) ⟨Nat.le_of_ble_eq_true rfl, Nat.le_of_ble_eq_true rfl⟩) (rc_KR hC hW) hW hS ⟨Nat.le_of_ble_eq_true rfl, Nat.le_of_ble_eq_true rfl⟩ rfl rfl (Nat.le_of_ble_eq_true rfl) dL_playerAt_5 (fun H locs q hW hS hz hk => ?_)
      have hO := wo_kept (fun t i x y => (hWN.2 t i x y).1) hO hk
      have hD := wo_kept (fun t i x y => (hWN.2 t i x y).2) hD hk
      refine lv_astore (lv' := [(4, .ref q), (0, .ref (ad 0 0)), (1, .int (zi k)), (2, .int (zi j)), (3, .ref ao)]) hx hb dL_playerAt_17 hl (by decide) rfl (fun ls hl => ?_)
      refine k_iconst hC dL_playerAt_19 ?_
      have hW := gh (u := 31) (i := 0) (j := 0) (v := 2) (fun _ _ => rfl) hW
      exact w_ret hX hW hO hD hS (Nat.le_refl _) (Nat.le_refl _) dL_playerAt_20
  · have e : cd_playerAt σ k j = 1 := by unfold cd_playerAt; rw [if_neg c0]
    rw [e, stp_1 (by decide), bx_1 (by decide)]
    intro sz
    refine w_ent (cc := cL_playerAt) (maxL := 5) (ret := (some .int)) (hh := [(0, 10, 13, 19), (0, 10, 17, 42)]) (by decide) rfl hI (Nat.le_of_ble_eq_true rfl) ?_
    intro pgm env s₀ m₀ bel mth cod hX htab hK2 hNc hW hO hD hS hsz ls hl
    subst hsz
    have hC := hX.1
    have hx := hC.1
    have hb := hC.2.1
    have hts := hC.2.2.2.1
    have hl : lv_has ls 5 [(0, .ref (ad 0 0)), (1, .int (zi k)), (2, .int (zi j)), (3, .ref ao)] := hl
    refine lv_aload_n hx hb dL_playerAt_0 rfl (lv_at hl 3 rfl) ?_
    refine k_iconst hC dL_playerAt_1 ?_
    refine lv_aload_n hx hb dL_playerAt_2 rfl (lv_at hl 0 rfl) ?_
    refine lv_iload_n hx hb dL_playerAt_3 rfl (lv_at hl 1 rfl) ?_
    refine lv_iload_n hx hb dL_playerAt_4 rfl (lv_at hl 2 rfl) ?_
    have hl_19 := hts (.classLink RL 19 "java/lang/IndexOutOfBoundsException") (by decide +kernel)
    refine w_caught (rest := [.int (zi 0), .ref ao]) (As := [.int (zi k), .int (zi j)]) (name := "java/lang/IndexOutOfBoundsException") [] ⟨0, 10, 13, 19⟩ [⟨0, 10, 17, 42⟩] (tgt := 13) hX htab (fun _ h => absurd h List.not_mem_nil) (by decide) (by decide) hl_19 (by decide) rfl hl.1 (m_playerAt_x hI hfl σ k j hv (by omega) (by omega)) (cwV 2 hts gL_playerAt_X7_playerAt rfl rfl rfl (by decide +kernel) ⟨Nat.le_of_ble_eq_true rfl, Nat.le_of_ble_eq_true rfl⟩) (rc_KR hC hW) hW hS ⟨Nat.le_of_ble_eq_true rfl, Nat.le_of_ble_eq_true rfl⟩ rfl rfl (Nat.le_of_ble_eq_true rfl) dL_playerAt_5 (fun H locs q hW hS hz hk => ?_)
    have hO := wo_kept (fun t i x y => (hWN.2 t i x y).1) hO hk
    have hD := wo_kept (fun t i x y => (hWN.2 t i x y).2) hD hk
    refine lv_astore (lv' := [(4, .ref q), (0, .ref (ad 0 0)), (1, .int (zi k)), (2, .int (zi j)), (3, .ref ao)]) hx hb dL_playerAt_13 hl (by decide) rfl (fun ls hl => ?_)
    refine k_iconst hC dL_playerAt_15 ?_
    have hW := gh (u := 31) (i := 0) (j := 0) (v := 1) (fun _ _ => rfl) hW
    exact w_ret hX hW hO hD hS (Nat.le_refl _) (Nat.le_refl _) dL_playerAt_16
set_option maxHeartbeats 2000000 in
set_option maxRecDepth 100000 in
theorem w_next {l : Launch} {Dg : va_G} {cA : Nat → ClassId} {cL cD : ClassId} {ad : Nat → Int → Nat} {oc : Nat → Nat} {ao aD : Nat} (hI : WI ccnt ad) (hWN : WN ad ao aD) (hfl : l.stackTraces = false) {N M : Int} (σ : St) (k : Int) (hv : Inv N M σ) (hN : N ≤ 1000000) (hM : 0 ≤ M ∧ M ≤ 1000000) (hr_k : -2147483648 ≤ k ∧ k < 2147483648) (o : Int64) (d9 : UInt64) : GW l yL_next wsL_next ({ frames := 9, cells := 1, slots := 6, locals := 154 } : Room) Dg cA cL cD ad oc ao aD (cE cA ad σ) o d9 [.ref (ad 0 0), .int (zi k), .ref ao] (cd_next σ k) (cE cA ad (stp (cd_next σ k) σ σ)) (bx (cd_next σ k) (zi (100 * σ 5 k 0 + σ 4 k (σ 5 k 0 - 1))).toInt64 o) d9 := by
  have hA := hv.A
  unfold IvA at hA
  by_cases c0 : 0 ≤ k ∧ k < σ 27 0 0
  · have hS := (hv.S k (by omega) (by omega)).1
    by_cases c1 : σ 6 k 0 = 1
    · have e : cd_next σ k = 0 := by unfold cd_next; rw [if_pos c0, if_pos c1]
      rw [e, stp_0, bx_0]
      intro sz
      refine w_ent (cc := cL_next) (maxL := 4) (ret := (some .int)) (hh := [(0, 9, 12, 19), (0, 9, 15, 42)]) (by decide) rfl hI (Nat.le_of_ble_eq_true rfl) ?_
      intro pgm env s₀ m₀ bel mth cod hX htab hK2 hNc hW hO hD hS hsz ls hl
      subst hsz
      have hC := hX.1
      have hx := hC.1
      have hb := hC.2.1
      have hts := hC.2.2.2.1
      have hl : lv_has ls 4 [(0, .ref (ad 0 0)), (1, .int (zi k)), (2, .ref ao)] := hl
      refine lv_aload_n hx hb dL_next_0 rfl (lv_at hl 2 rfl) ?_
      refine k_iconst hC dL_next_1 ?_
      refine lv_aload_n hx hb dL_next_2 rfl (lv_at hl 0 rfl) ?_
      refine lv_iload_n hx hb dL_next_3 rfl (lv_at hl 1 rfl) ?_
      refine k_callI (As := [.int (zi k)]) (rest := [.int (zi 0), .ref ao]) hX hl.1 (m_next hI σ k hv (by omega) (by omega)) (cwV 1 hts gL_next_X7_next rfl rfl rfl (by decide +kernel) ⟨Nat.le_of_ble_eq_true rfl, Nat.le_of_ble_eq_true rfl⟩) (rc_KR hC hW) hW hS ⟨Nat.zero_le _, Nat.zero_le _⟩ rfl rfl (Nat.le_of_ble_eq_true rfl) dL_next_4 (fun H locs hW hS hz hk => ?_)
      have hO := wo_kept (fun t i x y => (hWN.2 t i x y).1) hO hk
      have hD := wo_kept (fun t i x y => (hWN.2 t i x y).2) hD hk
      refine lv_i2l hx hb dL_next_7 rfl ?_
      refine w_last hC hK2 hWN (Or.inl rfl) hW hO hD hS dL_next_8 (fun H locs hW hO hD hS => ?_)
      refine lv_goto (tgt := 18) hx hb dL_next_9 (by decide) ?_
      refine k_iconst hC dL_next_18 ?_
      exact w_ret hX hW hO hD hS (Nat.zero_le _) (Nat.zero_le _) dL_next_19
    · have e : cd_next σ k = 2 := by unfold cd_next; rw [if_pos c0, if_neg c1]
      rw [e, stp_1 (by decide), bx_1 (by decide)]
      intro sz
      refine w_ent (cc := cL_next) (maxL := 4) (ret := (some .int)) (hh := [(0, 9, 12, 19), (0, 9, 15, 42)]) (by decide) rfl hI (Nat.le_of_ble_eq_true rfl) ?_
      intro pgm env s₀ m₀ bel mth cod hX htab hK2 hNc hW hO hD hS hsz ls hl
      subst hsz
      have hC := hX.1
      have hx := hC.1
      have hb := hC.2.1
      have hts := hC.2.2.2.1
      have hl : lv_has ls 4 [(0, .ref (ad 0 0)), (1, .int (zi k)), (2, .ref ao)] := hl
      refine lv_aload_n hx hb dL_next_0 rfl (lv_at hl 2 rfl) ?_
      refine k_iconst hC dL_next_1 ?_
      refine lv_aload_n hx hb dL_next_2 rfl (lv_at hl 0 rfl) ?_
      refine lv_iload_n hx hb dL_next_3 rfl (lv_at hl 1 rfl) ?_
      have hl_19 := hts (.classLink RL 19 "java/lang/IndexOutOfBoundsException") (by decide +kernel)
      have hl_42 := hts (.classLink RL 42 "java/util/NoSuchElementException") (by decide +kernel)
      refine w_caught (rest := [.int (zi 0), .ref ao]) (As := [.int (zi k)]) (name := "java/util/NoSuchElementException") [⟨0, 9, 12, 19⟩] ⟨0, 9, 15, 42⟩ [] (tgt := 15) hX htab (List.forall_mem_cons.mpr ⟨⟨by decide, _, hl_19, hNc ("java/util/NoSuchElementException", "java/lang/IndexOutOfBoundsException") (by decide)⟩, (fun _ h => absurd h List.not_mem_nil)⟩) (by decide) (by decide) hl_42 (by decide) rfl hl.1 (m_next_n hI hfl σ k hv (by omega) (by omega)) (cwV 1 hts gL_next_X7_next rfl rfl rfl (by decide +kernel) ⟨Nat.le_of_ble_eq_true rfl, Nat.le_of_ble_eq_true rfl⟩) (rc_KR hC hW) hW hS ⟨Nat.le_of_ble_eq_true rfl, Nat.le_of_ble_eq_true rfl⟩ rfl rfl (Nat.le_of_ble_eq_true rfl) dL_next_4 (fun H locs q hW hS hz hk => ?_)
      have hO := wo_kept (fun t i x y => (hWN.2 t i x y).1) hO hk
      have hD := wo_kept (fun t i x y => (hWN.2 t i x y).2) hD hk
      refine lv_astore_n (lv' := [(3, .ref q), (0, .ref (ad 0 0)), (1, .int (zi k)), (2, .ref ao)]) hx hb dL_next_15 rfl hl (by decide) rfl (fun ls hl => ?_)
      refine k_iconst hC dL_next_16 ?_
      have hW := gh (u := 31) (i := 0) (j := 0) (v := 2) (fun _ _ => rfl) hW
      exact w_ret hX hW hO hD hS (Nat.le_refl _) (Nat.le_refl _) dL_next_17
  · have e : cd_next σ k = 1 := by unfold cd_next; rw [if_neg c0]
    rw [e, stp_1 (by decide), bx_1 (by decide)]
    intro sz
    refine w_ent (cc := cL_next) (maxL := 4) (ret := (some .int)) (hh := [(0, 9, 12, 19), (0, 9, 15, 42)]) (by decide) rfl hI (Nat.le_of_ble_eq_true rfl) ?_
    intro pgm env s₀ m₀ bel mth cod hX htab hK2 hNc hW hO hD hS hsz ls hl
    subst hsz
    have hC := hX.1
    have hx := hC.1
    have hb := hC.2.1
    have hts := hC.2.2.2.1
    have hl : lv_has ls 4 [(0, .ref (ad 0 0)), (1, .int (zi k)), (2, .ref ao)] := hl
    refine lv_aload_n hx hb dL_next_0 rfl (lv_at hl 2 rfl) ?_
    refine k_iconst hC dL_next_1 ?_
    refine lv_aload_n hx hb dL_next_2 rfl (lv_at hl 0 rfl) ?_
    refine lv_iload_n hx hb dL_next_3 rfl (lv_at hl 1 rfl) ?_
    have hl_19 := hts (.classLink RL 19 "java/lang/IndexOutOfBoundsException") (by decide +kernel)
    refine w_caught (rest := [.int (zi 0), .ref ao]) (As := [.int (zi k)]) (name := "java/lang/IndexOutOfBoundsException") [] ⟨0, 9, 12, 19⟩ [⟨0, 9, 15, 42⟩] (tgt := 12) hX htab (fun _ h => absurd h List.not_mem_nil) (by decide) (by decide) hl_19 (by decide) rfl hl.1 (m_next_x hI hfl σ k hv (by omega) (by omega)) (cwV 1 hts gL_next_X7_next rfl rfl rfl (by decide +kernel) ⟨Nat.le_of_ble_eq_true rfl, Nat.le_of_ble_eq_true rfl⟩) (rc_KR hC hW) hW hS ⟨Nat.le_of_ble_eq_true rfl, Nat.le_of_ble_eq_true rfl⟩ rfl rfl (Nat.le_of_ble_eq_true rfl) dL_next_4 (fun H locs q hW hS hz hk => ?_)
    have hO := wo_kept (fun t i x y => (hWN.2 t i x y).1) hO hk
    have hD := wo_kept (fun t i x y => (hWN.2 t i x y).2) hD hk
    refine lv_astore_n (lv' := [(3, .ref q), (0, .ref (ad 0 0)), (1, .int (zi k)), (2, .ref ao)]) hx hb dL_next_12 rfl hl (by decide) rfl (fun ls hl => ?_)
    refine k_iconst hC dL_next_13 ?_
    have hW := gh (u := 31) (i := 0) (j := 0) (v := 1) (fun _ _ => rfl) hW
    exact w_ret hX hW hO hD hS (Nat.le_refl _) (Nat.le_refl _) dL_next_14
set_option maxHeartbeats 2000000 in
set_option maxRecDepth 100000 in
theorem w_count {l : Launch} {Dg : va_G} {cA : Nat → ClassId} {cL cD : ClassId} {ad : Nat → Int → Nat} {oc : Nat → Nat} {ao aD : Nat} (hI : WI ccnt ad) (hWN : WN ad ao aD) (hfl : l.stackTraces = false) {N M : Int} (σ : St) (k : Int) (hv : Inv N M σ) (hN : N ≤ 1000000) (hM : 0 ≤ M ∧ M ≤ 1000000) (hr_k : -2147483648 ≤ k ∧ k < 2147483648) (o : Int64) (d9 : UInt64) : GW l yL_count wsL_count ({ frames := 9, cells := 1, slots := 6, locals := 153 } : Room) Dg cA cL cD ad oc ao aD (cE cA ad σ) o d9 [.ref (ad 0 0), .int (zi k), .ref ao] (cd_count σ k) (cE cA ad (stp (cd_count σ k) σ σ)) (bx (cd_count σ k) (zi (σ 9 k 0)).toInt64 o) d9 := by
  have hA := hv.A
  unfold IvA at hA
  by_cases c0 : 0 ≤ k ∧ k < σ 27 0 0
  · have hS := (hv.S k (by omega) (by omega)).1
    by_cases c1 : σ 6 k 0 = 1
    · have e : cd_count σ k = 0 := by unfold cd_count; rw [if_pos c0, if_pos c1]
      rw [e, stp_0, bx_0]
      intro sz
      refine w_ent (cc := cL_count) (maxL := 4) (ret := (some .int)) (hh := [(0, 9, 12, 19), (0, 9, 15, 42)]) (by decide) rfl hI (Nat.le_of_ble_eq_true rfl) ?_
      intro pgm env s₀ m₀ bel mth cod hX htab hK2 hNc hW hO hD hS hsz ls hl
      subst hsz
      have hC := hX.1
      have hx := hC.1
      have hb := hC.2.1
      have hts := hC.2.2.2.1
      have hl : lv_has ls 4 [(0, .ref (ad 0 0)), (1, .int (zi k)), (2, .ref ao)] := hl
      refine lv_aload_n hx hb dL_count_0 rfl (lv_at hl 2 rfl) ?_
      refine k_iconst hC dL_count_1 ?_
      refine lv_aload_n hx hb dL_count_2 rfl (lv_at hl 0 rfl) ?_
      refine lv_iload_n hx hb dL_count_3 rfl (lv_at hl 1 rfl) ?_
      refine k_callI (As := [.int (zi k)]) (rest := [.int (zi 0), .ref ao]) hX hl.1 (m_count hI σ k hv (by omega) (by omega)) (cwV 1 hts gL_count_X7_count rfl rfl rfl (by decide +kernel) ⟨Nat.le_of_ble_eq_true rfl, Nat.le_of_ble_eq_true rfl⟩) (rc_KR hC hW) hW hS ⟨Nat.zero_le _, Nat.zero_le _⟩ rfl rfl (Nat.le_of_ble_eq_true rfl) dL_count_4 (fun H locs hW hS hz hk => ?_)
      have hO := wo_kept (fun t i x y => (hWN.2 t i x y).1) hO hk
      have hD := wo_kept (fun t i x y => (hWN.2 t i x y).2) hD hk
      refine lv_i2l hx hb dL_count_7 rfl ?_
      refine w_last hC hK2 hWN (Or.inl rfl) hW hO hD hS dL_count_8 (fun H locs hW hO hD hS => ?_)
      refine lv_goto (tgt := 18) hx hb dL_count_9 (by decide) ?_
      refine k_iconst hC dL_count_18 ?_
      exact w_ret hX hW hO hD hS (Nat.zero_le _) (Nat.zero_le _) dL_count_19
    · have e : cd_count σ k = 2 := by unfold cd_count; rw [if_pos c0, if_neg c1]
      rw [e, stp_1 (by decide), bx_1 (by decide)]
      intro sz
      refine w_ent (cc := cL_count) (maxL := 4) (ret := (some .int)) (hh := [(0, 9, 12, 19), (0, 9, 15, 42)]) (by decide) rfl hI (Nat.le_of_ble_eq_true rfl) ?_
      intro pgm env s₀ m₀ bel mth cod hX htab hK2 hNc hW hO hD hS hsz ls hl
      subst hsz
      have hC := hX.1
      have hx := hC.1
      have hb := hC.2.1
      have hts := hC.2.2.2.1
      have hl : lv_has ls 4 [(0, .ref (ad 0 0)), (1, .int (zi k)), (2, .ref ao)] := hl
      refine lv_aload_n hx hb dL_count_0 rfl (lv_at hl 2 rfl) ?_
      refine k_iconst hC dL_count_1 ?_
      refine lv_aload_n hx hb dL_count_2 rfl (lv_at hl 0 rfl) ?_
      refine lv_iload_n hx hb dL_count_3 rfl (lv_at hl 1 rfl) ?_
      have hl_19 := hts (.classLink RL 19 "java/lang/IndexOutOfBoundsException") (by decide +kernel)
      have hl_42 := hts (.classLink RL 42 "java/util/NoSuchElementException") (by decide +kernel)
      refine w_caught (rest := [.int (zi 0), .ref ao]) (As := [.int (zi k)]) (name := "java/util/NoSuchElementException") [⟨0, 9, 12, 19⟩] ⟨0, 9, 15, 42⟩ [] (tgt := 15) hX htab (List.forall_mem_cons.mpr ⟨⟨by decide, _, hl_19, hNc ("java/util/NoSuchElementException", "java/lang/IndexOutOfBoundsException") (by decide)⟩, (fun _ h => absurd h List.not_mem_nil)⟩) (by decide) (by decide) hl_42 (by decide) rfl hl.1 (m_count_n hI hfl σ k hv (by omega) (by omega)) (cwV 1 hts gL_count_X7_count rfl rfl rfl (by decide +kernel) ⟨Nat.le_of_ble_eq_true rfl, Nat.le_of_ble_eq_true rfl⟩) (rc_KR hC hW) hW hS ⟨Nat.le_of_ble_eq_true rfl, Nat.le_of_ble_eq_true rfl⟩ rfl rfl (Nat.le_of_ble_eq_true rfl) dL_count_4 (fun H locs q hW hS hz hk => ?_)
      have hO := wo_kept (fun t i x y => (hWN.2 t i x y).1) hO hk
      have hD := wo_kept (fun t i x y => (hWN.2 t i x y).2) hD hk
      refine lv_astore_n (lv' := [(3, .ref q), (0, .ref (ad 0 0)), (1, .int (zi k)), (2, .ref ao)]) hx hb dL_count_15 rfl hl (by decide) rfl (fun ls hl => ?_)
      refine k_iconst hC dL_count_16 ?_
      have hW := gh (u := 31) (i := 0) (j := 0) (v := 2) (fun _ _ => rfl) hW
      exact w_ret hX hW hO hD hS (Nat.le_refl _) (Nat.le_refl _) dL_count_17
  · have e : cd_count σ k = 1 := by unfold cd_count; rw [if_neg c0]
    rw [e, stp_1 (by decide), bx_1 (by decide)]
    intro sz
    refine w_ent (cc := cL_count) (maxL := 4) (ret := (some .int)) (hh := [(0, 9, 12, 19), (0, 9, 15, 42)]) (by decide) rfl hI (Nat.le_of_ble_eq_true rfl) ?_
    intro pgm env s₀ m₀ bel mth cod hX htab hK2 hNc hW hO hD hS hsz ls hl
    subst hsz
    have hC := hX.1
    have hx := hC.1
    have hb := hC.2.1
    have hts := hC.2.2.2.1
    have hl : lv_has ls 4 [(0, .ref (ad 0 0)), (1, .int (zi k)), (2, .ref ao)] := hl
    refine lv_aload_n hx hb dL_count_0 rfl (lv_at hl 2 rfl) ?_
    refine k_iconst hC dL_count_1 ?_
    refine lv_aload_n hx hb dL_count_2 rfl (lv_at hl 0 rfl) ?_
    refine lv_iload_n hx hb dL_count_3 rfl (lv_at hl 1 rfl) ?_
    have hl_19 := hts (.classLink RL 19 "java/lang/IndexOutOfBoundsException") (by decide +kernel)
    refine w_caught (rest := [.int (zi 0), .ref ao]) (As := [.int (zi k)]) (name := "java/lang/IndexOutOfBoundsException") [] ⟨0, 9, 12, 19⟩ [⟨0, 9, 15, 42⟩] (tgt := 12) hX htab (fun _ h => absurd h List.not_mem_nil) (by decide) (by decide) hl_19 (by decide) rfl hl.1 (m_count_x hI hfl σ k hv (by omega) (by omega)) (cwV 1 hts gL_count_X7_count rfl rfl rfl (by decide +kernel) ⟨Nat.le_of_ble_eq_true rfl, Nat.le_of_ble_eq_true rfl⟩) (rc_KR hC hW) hW hS ⟨Nat.le_of_ble_eq_true rfl, Nat.le_of_ble_eq_true rfl⟩ rfl rfl (Nat.le_of_ble_eq_true rfl) dL_count_4 (fun H locs q hW hS hz hk => ?_)
    have hO := wo_kept (fun t i x y => (hWN.2 t i x y).1) hO hk
    have hD := wo_kept (fun t i x y => (hWN.2 t i x y).2) hD hk
    refine lv_astore_n (lv' := [(3, .ref q), (0, .ref (ad 0 0)), (1, .int (zi k)), (2, .ref ao)]) hx hb dL_count_12 rfl hl (by decide) rfl (fun ls hl => ?_)
    refine k_iconst hC dL_count_13 ?_
    have hW := gh (u := 31) (i := 0) (j := 0) (v := 1) (fun _ _ => rfl) hW
    exact w_ret hX hW hO hD hS (Nat.le_refl _) (Nat.le_refl _) dL_count_14
set_option maxHeartbeats 2000000 in
set_option maxRecDepth 100000 in
theorem w_waits {l : Launch} {Dg : va_G} {cA : Nat → ClassId} {cL cD : ClassId} {ad : Nat → Int → Nat} {oc : Nat → Nat} {ao aD : Nat} (hI : WI ccnt ad) (hWN : WN ad ao aD) (hfl : l.stackTraces = false) {N M : Int} (σ : St) (k : Int) (hv : Inv N M σ) (hN : N ≤ 1000000) (hM : 0 ≤ M ∧ M ≤ 1000000) (hr_k : -2147483648 ≤ k ∧ k < 2147483648) (o : Int64) (d9 : UInt64) : GW l yL_waits wsL_waits ({ frames := 9, cells := 1, slots := 6, locals := 154 } : Room) Dg cA cL cD ad oc ao aD (cE cA ad σ) o d9 [.ref (ad 0 0), .int (zi k), .ref ao] (cd_waits σ k) (cE cA ad (stp (cd_waits σ k) σ σ)) (bx (cd_waits σ k) (zi (if σ 11 k 0 ≠ -1 then 100 else σ 10 k 0)).toInt64 o) d9 := by
  have hA := hv.A
  unfold IvA at hA
  by_cases c0 : 0 ≤ k ∧ k < σ 27 0 0
  · have hS := (hv.S k (by omega) (by omega)).1
    by_cases c1 : σ 6 k 0 = 1
    · have e : cd_waits σ k = 0 := by unfold cd_waits; rw [if_pos c0, if_pos c1]
      rw [e, stp_0, bx_0]
      intro sz
      refine w_ent (cc := cL_waits) (maxL := 4) (ret := (some .int)) (hh := [(0, 9, 12, 19), (0, 9, 15, 42)]) (by decide) rfl hI (Nat.le_of_ble_eq_true rfl) ?_
      intro pgm env s₀ m₀ bel mth cod hX htab hK2 hNc hW hO hD hS hsz ls hl
      subst hsz
      have hC := hX.1
      have hx := hC.1
      have hb := hC.2.1
      have hts := hC.2.2.2.1
      have hl : lv_has ls 4 [(0, .ref (ad 0 0)), (1, .int (zi k)), (2, .ref ao)] := hl
      refine lv_aload_n hx hb dL_waits_0 rfl (lv_at hl 2 rfl) ?_
      refine k_iconst hC dL_waits_1 ?_
      refine lv_aload_n hx hb dL_waits_2 rfl (lv_at hl 0 rfl) ?_
      refine lv_iload_n hx hb dL_waits_3 rfl (lv_at hl 1 rfl) ?_
      refine k_callI (As := [.int (zi k)]) (rest := [.int (zi 0), .ref ao]) hX hl.1 (m_waits hI σ k hv (by omega) (by omega)) (cwV 1 hts gL_waits_X7_waits rfl rfl rfl (by decide +kernel) ⟨Nat.le_of_ble_eq_true rfl, Nat.le_of_ble_eq_true rfl⟩) (rc_KR hC hW) hW hS ⟨Nat.zero_le _, Nat.zero_le _⟩ rfl rfl (Nat.le_of_ble_eq_true rfl) dL_waits_4 (fun H locs hW hS hz hk => ?_)
      have hO := wo_kept (fun t i x y => (hWN.2 t i x y).1) hO hk
      have hD := wo_kept (fun t i x y => (hWN.2 t i x y).2) hD hk
      refine lv_i2l hx hb dL_waits_7 rfl ?_
      refine w_last hC hK2 hWN (Or.inl rfl) hW hO hD hS dL_waits_8 (fun H locs hW hO hD hS => ?_)
      refine lv_goto (tgt := 18) hx hb dL_waits_9 (by decide) ?_
      refine k_iconst hC dL_waits_18 ?_
      exact w_ret hX hW hO hD hS (Nat.zero_le _) (Nat.zero_le _) dL_waits_19
    · have e : cd_waits σ k = 2 := by unfold cd_waits; rw [if_pos c0, if_neg c1]
      rw [e, stp_1 (by decide), bx_1 (by decide)]
      intro sz
      refine w_ent (cc := cL_waits) (maxL := 4) (ret := (some .int)) (hh := [(0, 9, 12, 19), (0, 9, 15, 42)]) (by decide) rfl hI (Nat.le_of_ble_eq_true rfl) ?_
      intro pgm env s₀ m₀ bel mth cod hX htab hK2 hNc hW hO hD hS hsz ls hl
      subst hsz
      have hC := hX.1
      have hx := hC.1
      have hb := hC.2.1
      have hts := hC.2.2.2.1
      have hl : lv_has ls 4 [(0, .ref (ad 0 0)), (1, .int (zi k)), (2, .ref ao)] := hl
      refine lv_aload_n hx hb dL_waits_0 rfl (lv_at hl 2 rfl) ?_
      refine k_iconst hC dL_waits_1 ?_
      refine lv_aload_n hx hb dL_waits_2 rfl (lv_at hl 0 rfl) ?_
      refine lv_iload_n hx hb dL_waits_3 rfl (lv_at hl 1 rfl) ?_
      have hl_19 := hts (.classLink RL 19 "java/lang/IndexOutOfBoundsException") (by decide +kernel)
      have hl_42 := hts (.classLink RL 42 "java/util/NoSuchElementException") (by decide +kernel)
      refine w_caught (rest := [.int (zi 0), .ref ao]) (As := [.int (zi k)]) (name := "java/util/NoSuchElementException") [⟨0, 9, 12, 19⟩] ⟨0, 9, 15, 42⟩ [] (tgt := 15) hX htab (List.forall_mem_cons.mpr ⟨⟨by decide, _, hl_19, hNc ("java/util/NoSuchElementException", "java/lang/IndexOutOfBoundsException") (by decide)⟩, (fun _ h => absurd h List.not_mem_nil)⟩) (by decide) (by decide) hl_42 (by decide) rfl hl.1 (m_waits_n hI hfl σ k hv (by omega) (by omega)) (cwV 1 hts gL_waits_X7_waits rfl rfl rfl (by decide +kernel) ⟨Nat.le_of_ble_eq_true rfl, Nat.le_of_ble_eq_true rfl⟩) (rc_KR hC hW) hW hS ⟨Nat.le_of_ble_eq_true rfl, Nat.le_of_ble_eq_true rfl⟩ rfl rfl (Nat.le_of_ble_eq_true rfl) dL_waits_4 (fun H locs q hW hS hz hk => ?_)
      have hO := wo_kept (fun t i x y => (hWN.2 t i x y).1) hO hk
      have hD := wo_kept (fun t i x y => (hWN.2 t i x y).2) hD hk
      refine lv_astore_n (lv' := [(3, .ref q), (0, .ref (ad 0 0)), (1, .int (zi k)), (2, .ref ao)]) hx hb dL_waits_15 rfl hl (by decide) rfl (fun ls hl => ?_)
      refine k_iconst hC dL_waits_16 ?_
      have hW := gh (u := 31) (i := 0) (j := 0) (v := 2) (fun _ _ => rfl) hW
      exact w_ret hX hW hO hD hS (Nat.le_refl _) (Nat.le_refl _) dL_waits_17
  · have e : cd_waits σ k = 1 := by unfold cd_waits; rw [if_neg c0]
    rw [e, stp_1 (by decide), bx_1 (by decide)]
    intro sz
    refine w_ent (cc := cL_waits) (maxL := 4) (ret := (some .int)) (hh := [(0, 9, 12, 19), (0, 9, 15, 42)]) (by decide) rfl hI (Nat.le_of_ble_eq_true rfl) ?_
    intro pgm env s₀ m₀ bel mth cod hX htab hK2 hNc hW hO hD hS hsz ls hl
    subst hsz
    have hC := hX.1
    have hx := hC.1
    have hb := hC.2.1
    have hts := hC.2.2.2.1
    have hl : lv_has ls 4 [(0, .ref (ad 0 0)), (1, .int (zi k)), (2, .ref ao)] := hl
    refine lv_aload_n hx hb dL_waits_0 rfl (lv_at hl 2 rfl) ?_
    refine k_iconst hC dL_waits_1 ?_
    refine lv_aload_n hx hb dL_waits_2 rfl (lv_at hl 0 rfl) ?_
    refine lv_iload_n hx hb dL_waits_3 rfl (lv_at hl 1 rfl) ?_
    have hl_19 := hts (.classLink RL 19 "java/lang/IndexOutOfBoundsException") (by decide +kernel)
    refine w_caught (rest := [.int (zi 0), .ref ao]) (As := [.int (zi k)]) (name := "java/lang/IndexOutOfBoundsException") [] ⟨0, 9, 12, 19⟩ [⟨0, 9, 15, 42⟩] (tgt := 12) hX htab (fun _ h => absurd h List.not_mem_nil) (by decide) (by decide) hl_19 (by decide) rfl hl.1 (m_waits_x hI hfl σ k hv (by omega) (by omega)) (cwV 1 hts gL_waits_X7_waits rfl rfl rfl (by decide +kernel) ⟨Nat.le_of_ble_eq_true rfl, Nat.le_of_ble_eq_true rfl⟩) (rc_KR hC hW) hW hS ⟨Nat.le_of_ble_eq_true rfl, Nat.le_of_ble_eq_true rfl⟩ rfl rfl (Nat.le_of_ble_eq_true rfl) dL_waits_4 (fun H locs q hW hS hz hk => ?_)
    have hO := wo_kept (fun t i x y => (hWN.2 t i x y).1) hO hk
    have hD := wo_kept (fun t i x y => (hWN.2 t i x y).2) hD hk
    refine lv_astore_n (lv' := [(3, .ref q), (0, .ref (ad 0 0)), (1, .int (zi k)), (2, .ref ao)]) hx hb dL_waits_12 rfl hl (by decide) rfl (fun ls hl => ?_)
    refine k_iconst hC dL_waits_13 ?_
    have hW := gh (u := 31) (i := 0) (j := 0) (v := 1) (fun _ _ => rfl) hW
    exact w_ret hX hW hO hD hS (Nat.le_refl _) (Nat.le_refl _) dL_waits_14
set_option maxHeartbeats 2000000 in
set_option maxRecDepth 100000 in
theorem w_tick {l : Launch} {Dg : va_G} {cA : Nat → ClassId} {cL cD : ClassId} {ad : Nat → Int → Nat} {oc : Nat → Nat} {ao aD : Nat} (hI : WI ccnt ad) (hWN : WN ad ao aD) (hfl : l.stackTraces = false) {N M : Int} (σ : St) (n : Int) (hv : Inv N M σ) (hN : N ≤ 1000000) (hM : 0 ≤ M ∧ M ≤ 1000000) (hr_n : -2147483648 ≤ n ∧ n < 2147483648) (o : Int64) (d9 : UInt64) : GW l yL_tick wsL_tick ({ frames := 7, cells := 1, slots := 6, locals := 166 } : Room) Dg cA cL cD ad oc ao aD (cE cA ad σ) o d9 [.ref (ad 0 0), .int (zi n), .ref ao] (cd_tick σ n) (cE cA ad (stp (cd_tick σ n) (fTick n.toNat (ups σ 30 0 0 0)) σ)) (bx (cd_tick σ n) (zi (fTick n.toNat (ups σ 30 0 0 0) 30 0 0)).toInt64 o) d9 := by
  have hA := hv.A
  unfold IvA at hA
  by_cases c0 : 1 ≤ n ∧ n ≤ 50
  · have e : cd_tick σ n = 0 := by unfold cd_tick; rw [if_pos c0]
    rw [e, stp_0, bx_0]
    intro sz
    refine w_ent (cc := cL_tick) (maxL := 4) (ret := (some .int)) (hh := [(0, 9, 12, 21)]) (by decide) rfl hI (Nat.le_of_ble_eq_true rfl) ?_
    intro pgm env s₀ m₀ bel mth cod hX htab hK2 hNc hW hO hD hS hsz ls hl
    subst hsz
    have hC := hX.1
    have hx := hC.1
    have hb := hC.2.1
    have hts := hC.2.2.2.1
    have hl : lv_has ls 4 [(0, .ref (ad 0 0)), (1, .int (zi n)), (2, .ref ao)] := hl
    refine lv_aload_n hx hb dL_tick_0 rfl (lv_at hl 2 rfl) ?_
    refine k_iconst hC dL_tick_1 ?_
    refine lv_aload_n hx hb dL_tick_2 rfl (lv_at hl 0 rfl) ?_
    refine lv_iload_n hx hb dL_tick_3 rfl (lv_at hl 1 rfl) ?_
    refine k_callI (As := [.int (zi n)]) (rest := [.int (zi 0), .ref ao]) hX hl.1 (m_tick hI σ n hv (by omega) (by omega)) (cwV 1 hts gL_tick_X7_tick rfl rfl rfl (by decide +kernel) ⟨Nat.le_of_ble_eq_true rfl, Nat.le_of_ble_eq_true rfl⟩) (rc_KR hC hW) hW hS ⟨Nat.zero_le _, Nat.zero_le _⟩ rfl rfl (Nat.le_of_ble_eq_true rfl) dL_tick_4 (fun H locs hW hS hz hk => ?_)
    have hO := wo_kept (fun t i x y => (hWN.2 t i x y).1) hO hk
    have hD := wo_kept (fun t i x y => (hWN.2 t i x y).2) hD hk
    refine lv_i2l hx hb dL_tick_7 rfl ?_
    refine w_last hC hK2 hWN (Or.inl rfl) hW hO hD hS dL_tick_8 (fun H locs hW hO hD hS => ?_)
    refine lv_goto (tgt := 15) hx hb dL_tick_9 (by decide) ?_
    refine k_iconst hC dL_tick_15 ?_
    exact w_ret hX hW hO hD hS (Nat.zero_le _) (Nat.zero_le _) dL_tick_16
  · have e : cd_tick σ n = 1 := by unfold cd_tick; rw [if_neg c0]
    rw [e, stp_1 (by decide), bx_1 (by decide)]
    intro sz
    refine w_ent (cc := cL_tick) (maxL := 4) (ret := (some .int)) (hh := [(0, 9, 12, 21)]) (by decide) rfl hI (Nat.le_of_ble_eq_true rfl) ?_
    intro pgm env s₀ m₀ bel mth cod hX htab hK2 hNc hW hO hD hS hsz ls hl
    subst hsz
    have hC := hX.1
    have hx := hC.1
    have hb := hC.2.1
    have hts := hC.2.2.2.1
    have hl : lv_has ls 4 [(0, .ref (ad 0 0)), (1, .int (zi n)), (2, .ref ao)] := hl
    refine lv_aload_n hx hb dL_tick_0 rfl (lv_at hl 2 rfl) ?_
    refine k_iconst hC dL_tick_1 ?_
    refine lv_aload_n hx hb dL_tick_2 rfl (lv_at hl 0 rfl) ?_
    refine lv_iload_n hx hb dL_tick_3 rfl (lv_at hl 1 rfl) ?_
    have hl_21 := hts (.classLink RL 21 "java/lang/IllegalArgumentException") (by decide +kernel)
    refine w_caught (rest := [.int (zi 0), .ref ao]) (As := [.int (zi n)]) (name := "java/lang/IllegalArgumentException") [] ⟨0, 9, 12, 21⟩ [] (tgt := 12) hX htab (fun _ h => absurd h List.not_mem_nil) (by decide) (by decide) hl_21 (by decide) rfl hl.1 (m_tick_x hI hfl σ n (by omega) (by omega)) (cwV 1 hts gL_tick_X7_tick rfl rfl rfl (by decide +kernel) ⟨Nat.le_of_ble_eq_true rfl, Nat.le_of_ble_eq_true rfl⟩) (rc_KR hC hW) hW hS ⟨Nat.le_of_ble_eq_true rfl, Nat.le_of_ble_eq_true rfl⟩ rfl rfl (Nat.le_of_ble_eq_true rfl) dL_tick_4 (fun H locs q hW hS hz hk => ?_)
    have hO := wo_kept (fun t i x y => (hWN.2 t i x y).1) hO hk
    have hD := wo_kept (fun t i x y => (hWN.2 t i x y).2) hD hk
    refine lv_astore_n (lv' := [(3, .ref q), (0, .ref (ad 0 0)), (1, .int (zi n)), (2, .ref ao)]) hx hb dL_tick_12 rfl hl (by decide) rfl (fun ls hl => ?_)
    refine k_iconst hC dL_tick_13 ?_
    have hW := gh (u := 31) (i := 0) (j := 0) (v := 1) (fun _ _ => rfl) hW
    exact w_ret hX hW hO hD hS (Nat.le_refl _) (Nat.le_refl _) dL_tick_14
set_option maxHeartbeats 2000000 in
set_option maxRecDepth 100000 in
theorem w_slide {l : Launch} {Dg : va_G} {cA : Nat → ClassId} {cL cD : ClassId} {ad : Nat → Int → Nat} {oc : Nat → Nat} {ao aD : Nat} (hI : WI ccnt ad) (hWN : WN ad ao aD) (hfl : l.stackTraces = false) {N M : Int} (σ : St) (k : Int) (hv : Inv N M σ) (hN : N ≤ 1000000) (hM : 0 ≤ M ∧ M ≤ 1000000) (hr_k : -2147483648 ≤ k ∧ k < 2147483648) (o : Int64) (d9 : UInt64) : GW l yL_slide wsL_slide ({ frames := 8, cells := 1, slots := 6, locals := 133 } : Room) Dg cA cL cD ad oc ao aD (cE cA ad σ) o d9 [.ref (ad 0 0), .int (zi k), .ref ao] (cd_slide σ k) (cE cA ad (stp (cd_slide σ k) σ σ)) (bx (cd_slide σ k) (zi (σ 15 k 0)).toInt64 o) d9 := by
  have hA := hv.A
  unfold IvA at hA
  by_cases c0 : 0 ≤ k ∧ k < σ 27 0 0
  · by_cases c1 : σ 15 k 0 ≠ -1
    · have e : cd_slide σ k = 0 := by unfold cd_slide; rw [if_pos c0, if_pos c1]
      rw [e, stp_0, bx_0]
      intro sz
      refine w_ent (cc := cL_slide) (maxL := 4) (ret := (some .int)) (hh := [(0, 9, 12, 19), (0, 9, 15, 42)]) (by decide) rfl hI (Nat.le_of_ble_eq_true rfl) ?_
      intro pgm env s₀ m₀ bel mth cod hX htab hK2 hNc hW hO hD hS hsz ls hl
      subst hsz
      have hC := hX.1
      have hx := hC.1
      have hb := hC.2.1
      have hts := hC.2.2.2.1
      have hl : lv_has ls 4 [(0, .ref (ad 0 0)), (1, .int (zi k)), (2, .ref ao)] := hl
      refine lv_aload_n hx hb dL_slide_0 rfl (lv_at hl 2 rfl) ?_
      refine k_iconst hC dL_slide_1 ?_
      refine lv_aload_n hx hb dL_slide_2 rfl (lv_at hl 0 rfl) ?_
      refine lv_iload_n hx hb dL_slide_3 rfl (lv_at hl 1 rfl) ?_
      refine k_callI (As := [.int (zi k)]) (rest := [.int (zi 0), .ref ao]) hX hl.1 (m_slide hI σ k hv (by omega) (by omega)) (cwV 1 hts gL_slide_X7_slide rfl rfl rfl (by decide +kernel) ⟨Nat.le_of_ble_eq_true rfl, Nat.le_of_ble_eq_true rfl⟩) (rc_KR hC hW) hW hS ⟨Nat.zero_le _, Nat.zero_le _⟩ rfl rfl (Nat.le_of_ble_eq_true rfl) dL_slide_4 (fun H locs hW hS hz hk => ?_)
      have hO := wo_kept (fun t i x y => (hWN.2 t i x y).1) hO hk
      have hD := wo_kept (fun t i x y => (hWN.2 t i x y).2) hD hk
      refine lv_i2l hx hb dL_slide_7 rfl ?_
      refine w_last hC hK2 hWN (Or.inl rfl) hW hO hD hS dL_slide_8 (fun H locs hW hO hD hS => ?_)
      refine lv_goto (tgt := 18) hx hb dL_slide_9 (by decide) ?_
      refine k_iconst hC dL_slide_18 ?_
      exact w_ret hX hW hO hD hS (Nat.zero_le _) (Nat.zero_le _) dL_slide_19
    · have e : cd_slide σ k = 2 := by unfold cd_slide; rw [if_pos c0, if_neg c1]
      rw [e, stp_1 (by decide), bx_1 (by decide)]
      intro sz
      refine w_ent (cc := cL_slide) (maxL := 4) (ret := (some .int)) (hh := [(0, 9, 12, 19), (0, 9, 15, 42)]) (by decide) rfl hI (Nat.le_of_ble_eq_true rfl) ?_
      intro pgm env s₀ m₀ bel mth cod hX htab hK2 hNc hW hO hD hS hsz ls hl
      subst hsz
      have hC := hX.1
      have hx := hC.1
      have hb := hC.2.1
      have hts := hC.2.2.2.1
      have hl : lv_has ls 4 [(0, .ref (ad 0 0)), (1, .int (zi k)), (2, .ref ao)] := hl
      refine lv_aload_n hx hb dL_slide_0 rfl (lv_at hl 2 rfl) ?_
      refine k_iconst hC dL_slide_1 ?_
      refine lv_aload_n hx hb dL_slide_2 rfl (lv_at hl 0 rfl) ?_
      refine lv_iload_n hx hb dL_slide_3 rfl (lv_at hl 1 rfl) ?_
      have hl_19 := hts (.classLink RL 19 "java/lang/IndexOutOfBoundsException") (by decide +kernel)
      have hl_42 := hts (.classLink RL 42 "java/util/NoSuchElementException") (by decide +kernel)
      refine w_caught (rest := [.int (zi 0), .ref ao]) (As := [.int (zi k)]) (name := "java/util/NoSuchElementException") [⟨0, 9, 12, 19⟩] ⟨0, 9, 15, 42⟩ [] (tgt := 15) hX htab (List.forall_mem_cons.mpr ⟨⟨by decide, _, hl_19, hNc ("java/util/NoSuchElementException", "java/lang/IndexOutOfBoundsException") (by decide)⟩, (fun _ h => absurd h List.not_mem_nil)⟩) (by decide) (by decide) hl_42 (by decide) rfl hl.1 (m_slide_n hI hfl σ k hv (by omega) (by omega)) (cwV 1 hts gL_slide_X7_slide rfl rfl rfl (by decide +kernel) ⟨Nat.le_of_ble_eq_true rfl, Nat.le_of_ble_eq_true rfl⟩) (rc_KR hC hW) hW hS ⟨Nat.le_of_ble_eq_true rfl, Nat.le_of_ble_eq_true rfl⟩ rfl rfl (Nat.le_of_ble_eq_true rfl) dL_slide_4 (fun H locs q hW hS hz hk => ?_)
      have hO := wo_kept (fun t i x y => (hWN.2 t i x y).1) hO hk
      have hD := wo_kept (fun t i x y => (hWN.2 t i x y).2) hD hk
      refine lv_astore_n (lv' := [(3, .ref q), (0, .ref (ad 0 0)), (1, .int (zi k)), (2, .ref ao)]) hx hb dL_slide_15 rfl hl (by decide) rfl (fun ls hl => ?_)
      refine k_iconst hC dL_slide_16 ?_
      have hW := gh (u := 31) (i := 0) (j := 0) (v := 2) (fun _ _ => rfl) hW
      exact w_ret hX hW hO hD hS (Nat.le_refl _) (Nat.le_refl _) dL_slide_17
  · have e : cd_slide σ k = 1 := by unfold cd_slide; rw [if_neg c0]
    rw [e, stp_1 (by decide), bx_1 (by decide)]
    intro sz
    refine w_ent (cc := cL_slide) (maxL := 4) (ret := (some .int)) (hh := [(0, 9, 12, 19), (0, 9, 15, 42)]) (by decide) rfl hI (Nat.le_of_ble_eq_true rfl) ?_
    intro pgm env s₀ m₀ bel mth cod hX htab hK2 hNc hW hO hD hS hsz ls hl
    subst hsz
    have hC := hX.1
    have hx := hC.1
    have hb := hC.2.1
    have hts := hC.2.2.2.1
    have hl : lv_has ls 4 [(0, .ref (ad 0 0)), (1, .int (zi k)), (2, .ref ao)] := hl
    refine lv_aload_n hx hb dL_slide_0 rfl (lv_at hl 2 rfl) ?_
    refine k_iconst hC dL_slide_1 ?_
    refine lv_aload_n hx hb dL_slide_2 rfl (lv_at hl 0 rfl) ?_
    refine lv_iload_n hx hb dL_slide_3 rfl (lv_at hl 1 rfl) ?_
    have hl_19 := hts (.classLink RL 19 "java/lang/IndexOutOfBoundsException") (by decide +kernel)
    refine w_caught (rest := [.int (zi 0), .ref ao]) (As := [.int (zi k)]) (name := "java/lang/IndexOutOfBoundsException") [] ⟨0, 9, 12, 19⟩ [⟨0, 9, 15, 42⟩] (tgt := 12) hX htab (fun _ h => absurd h List.not_mem_nil) (by decide) (by decide) hl_19 (by decide) rfl hl.1 (m_slide_x hI hfl σ k hv (by omega) (by omega)) (cwV 1 hts gL_slide_X7_slide rfl rfl rfl (by decide +kernel) ⟨Nat.le_of_ble_eq_true rfl, Nat.le_of_ble_eq_true rfl⟩) (rc_KR hC hW) hW hS ⟨Nat.le_of_ble_eq_true rfl, Nat.le_of_ble_eq_true rfl⟩ rfl rfl (Nat.le_of_ble_eq_true rfl) dL_slide_4 (fun H locs q hW hS hz hk => ?_)
    have hO := wo_kept (fun t i x y => (hWN.2 t i x y).1) hO hk
    have hD := wo_kept (fun t i x y => (hWN.2 t i x y).2) hD hk
    refine lv_astore_n (lv' := [(3, .ref q), (0, .ref (ad 0 0)), (1, .int (zi k)), (2, .ref ao)]) hx hb dL_slide_12 rfl hl (by decide) rfl (fun ls hl => ?_)
    refine k_iconst hC dL_slide_13 ?_
    have hW := gh (u := 31) (i := 0) (j := 0) (v := 1) (fun _ _ => rfl) hW
    exact w_ret hX hW hO hD hS (Nat.le_refl _) (Nat.le_refl _) dL_slide_14
set_option maxHeartbeats 2000000 in
set_option maxRecDepth 100000 in
theorem w_holder {l : Launch} {Dg : va_G} {cA : Nat → ClassId} {cL cD : ClassId} {ad : Nat → Int → Nat} {oc : Nat → Nat} {ao aD : Nat} (hI : WI ccnt ad) (hWN : WN ad ao aD) (hfl : l.stackTraces = false) {N M : Int} (σ : St) (d : Int) (hv : Inv N M σ) (hN : N ≤ 1000000) (hM : 0 ≤ M ∧ M ≤ 1000000) (hr_d : -2147483648 ≤ d ∧ d < 2147483648) (o : Int64) (d9 : UInt64) : GW l yL_holder wsL_holder ({ frames := 8, cells := 1, slots := 6, locals := 132 } : Room) Dg cA cL cD ad oc ao aD (cE cA ad σ) o d9 [.ref (ad 0 0), .int (zi d), .ref ao] (cd_holder σ d) (cE cA ad (stp (cd_holder σ d) σ σ)) (bx (cd_holder σ d) (zi (σ 18 d 0)).toInt64 o) d9 := by
  have hA := hv.A
  unfold IvA at hA
  by_cases c0 : 0 ≤ d ∧ d < 6
  · by_cases c1 : σ 18 d 0 ≠ -1
    · have e : cd_holder σ d = 0 := by unfold cd_holder; rw [if_pos c0, if_pos c1]
      rw [e, stp_0, bx_0]
      intro sz
      refine w_ent (cc := cL_holder) (maxL := 4) (ret := (some .int)) (hh := [(0, 9, 12, 19), (0, 9, 15, 42)]) (by decide) rfl hI (Nat.le_of_ble_eq_true rfl) ?_
      intro pgm env s₀ m₀ bel mth cod hX htab hK2 hNc hW hO hD hS hsz ls hl
      subst hsz
      have hC := hX.1
      have hx := hC.1
      have hb := hC.2.1
      have hts := hC.2.2.2.1
      have hl : lv_has ls 4 [(0, .ref (ad 0 0)), (1, .int (zi d)), (2, .ref ao)] := hl
      refine lv_aload_n hx hb dL_holder_0 rfl (lv_at hl 2 rfl) ?_
      refine k_iconst hC dL_holder_1 ?_
      refine lv_aload_n hx hb dL_holder_2 rfl (lv_at hl 0 rfl) ?_
      refine lv_iload_n hx hb dL_holder_3 rfl (lv_at hl 1 rfl) ?_
      refine k_callI (As := [.int (zi d)]) (rest := [.int (zi 0), .ref ao]) hX hl.1 (m_holder hI σ d hv (by omega) (by omega)) (cwV 1 hts gL_holder_X7_holder rfl rfl rfl (by decide +kernel) ⟨Nat.le_of_ble_eq_true rfl, Nat.le_of_ble_eq_true rfl⟩) (rc_KR hC hW) hW hS ⟨Nat.zero_le _, Nat.zero_le _⟩ rfl rfl (Nat.le_of_ble_eq_true rfl) dL_holder_4 (fun H locs hW hS hz hk => ?_)
      have hO := wo_kept (fun t i x y => (hWN.2 t i x y).1) hO hk
      have hD := wo_kept (fun t i x y => (hWN.2 t i x y).2) hD hk
      refine lv_i2l hx hb dL_holder_7 rfl ?_
      refine w_last hC hK2 hWN (Or.inl rfl) hW hO hD hS dL_holder_8 (fun H locs hW hO hD hS => ?_)
      refine lv_goto (tgt := 18) hx hb dL_holder_9 (by decide) ?_
      refine k_iconst hC dL_holder_18 ?_
      exact w_ret hX hW hO hD hS (Nat.zero_le _) (Nat.zero_le _) dL_holder_19
    · have e : cd_holder σ d = 2 := by unfold cd_holder; rw [if_pos c0, if_neg c1]
      rw [e, stp_1 (by decide), bx_1 (by decide)]
      intro sz
      refine w_ent (cc := cL_holder) (maxL := 4) (ret := (some .int)) (hh := [(0, 9, 12, 19), (0, 9, 15, 42)]) (by decide) rfl hI (Nat.le_of_ble_eq_true rfl) ?_
      intro pgm env s₀ m₀ bel mth cod hX htab hK2 hNc hW hO hD hS hsz ls hl
      subst hsz
      have hC := hX.1
      have hx := hC.1
      have hb := hC.2.1
      have hts := hC.2.2.2.1
      have hl : lv_has ls 4 [(0, .ref (ad 0 0)), (1, .int (zi d)), (2, .ref ao)] := hl
      refine lv_aload_n hx hb dL_holder_0 rfl (lv_at hl 2 rfl) ?_
      refine k_iconst hC dL_holder_1 ?_
      refine lv_aload_n hx hb dL_holder_2 rfl (lv_at hl 0 rfl) ?_
      refine lv_iload_n hx hb dL_holder_3 rfl (lv_at hl 1 rfl) ?_
      have hl_19 := hts (.classLink RL 19 "java/lang/IndexOutOfBoundsException") (by decide +kernel)
      have hl_42 := hts (.classLink RL 42 "java/util/NoSuchElementException") (by decide +kernel)
      refine w_caught (rest := [.int (zi 0), .ref ao]) (As := [.int (zi d)]) (name := "java/util/NoSuchElementException") [⟨0, 9, 12, 19⟩] ⟨0, 9, 15, 42⟩ [] (tgt := 15) hX htab (List.forall_mem_cons.mpr ⟨⟨by decide, _, hl_19, hNc ("java/util/NoSuchElementException", "java/lang/IndexOutOfBoundsException") (by decide)⟩, (fun _ h => absurd h List.not_mem_nil)⟩) (by decide) (by decide) hl_42 (by decide) rfl hl.1 (m_holder_n hI hfl σ d hv (by omega) (by omega)) (cwV 1 hts gL_holder_X7_holder rfl rfl rfl (by decide +kernel) ⟨Nat.le_of_ble_eq_true rfl, Nat.le_of_ble_eq_true rfl⟩) (rc_KR hC hW) hW hS ⟨Nat.le_of_ble_eq_true rfl, Nat.le_of_ble_eq_true rfl⟩ rfl rfl (Nat.le_of_ble_eq_true rfl) dL_holder_4 (fun H locs q hW hS hz hk => ?_)
      have hO := wo_kept (fun t i x y => (hWN.2 t i x y).1) hO hk
      have hD := wo_kept (fun t i x y => (hWN.2 t i x y).2) hD hk
      refine lv_astore_n (lv' := [(3, .ref q), (0, .ref (ad 0 0)), (1, .int (zi d)), (2, .ref ao)]) hx hb dL_holder_15 rfl hl (by decide) rfl (fun ls hl => ?_)
      refine k_iconst hC dL_holder_16 ?_
      have hW := gh (u := 31) (i := 0) (j := 0) (v := 2) (fun _ _ => rfl) hW
      exact w_ret hX hW hO hD hS (Nat.le_refl _) (Nat.le_refl _) dL_holder_17
  · have e : cd_holder σ d = 1 := by unfold cd_holder; rw [if_neg c0]
    rw [e, stp_1 (by decide), bx_1 (by decide)]
    intro sz
    refine w_ent (cc := cL_holder) (maxL := 4) (ret := (some .int)) (hh := [(0, 9, 12, 19), (0, 9, 15, 42)]) (by decide) rfl hI (Nat.le_of_ble_eq_true rfl) ?_
    intro pgm env s₀ m₀ bel mth cod hX htab hK2 hNc hW hO hD hS hsz ls hl
    subst hsz
    have hC := hX.1
    have hx := hC.1
    have hb := hC.2.1
    have hts := hC.2.2.2.1
    have hl : lv_has ls 4 [(0, .ref (ad 0 0)), (1, .int (zi d)), (2, .ref ao)] := hl
    refine lv_aload_n hx hb dL_holder_0 rfl (lv_at hl 2 rfl) ?_
    refine k_iconst hC dL_holder_1 ?_
    refine lv_aload_n hx hb dL_holder_2 rfl (lv_at hl 0 rfl) ?_
    refine lv_iload_n hx hb dL_holder_3 rfl (lv_at hl 1 rfl) ?_
    have hl_19 := hts (.classLink RL 19 "java/lang/IndexOutOfBoundsException") (by decide +kernel)
    refine w_caught (rest := [.int (zi 0), .ref ao]) (As := [.int (zi d)]) (name := "java/lang/IndexOutOfBoundsException") [] ⟨0, 9, 12, 19⟩ [⟨0, 9, 15, 42⟩] (tgt := 12) hX htab (fun _ h => absurd h List.not_mem_nil) (by decide) (by decide) hl_19 (by decide) rfl hl.1 (m_holder_x hI hfl σ d (by omega) (by omega)) (cwV 1 hts gL_holder_X7_holder rfl rfl rfl (by decide +kernel) ⟨Nat.le_of_ble_eq_true rfl, Nat.le_of_ble_eq_true rfl⟩) (rc_KR hC hW) hW hS ⟨Nat.le_of_ble_eq_true rfl, Nat.le_of_ble_eq_true rfl⟩ rfl rfl (Nat.le_of_ble_eq_true rfl) dL_holder_4 (fun H locs q hW hS hz hk => ?_)
    have hO := wo_kept (fun t i x y => (hWN.2 t i x y).1) hO hk
    have hD := wo_kept (fun t i x y => (hWN.2 t i x y).2) hD hk
    refine lv_astore_n (lv' := [(3, .ref q), (0, .ref (ad 0 0)), (1, .int (zi d)), (2, .ref ao)]) hx hb dL_holder_12 rfl hl (by decide) rfl (fun ls hl => ?_)
    refine k_iconst hC dL_holder_13 ?_
    have hW := gh (u := 31) (i := 0) (j := 0) (v := 1) (fun _ _ => rfl) hW
    exact w_ret hX hW hO hD hS (Nat.le_refl _) (Nat.le_refl _) dL_holder_14
set_option maxHeartbeats 2000000 in
set_option maxRecDepth 100000 in
theorem w_queued {l : Launch} {Dg : va_G} {cA : Nat → ClassId} {cL cD : ClassId} {ad : Nat → Int → Nat} {oc : Nat → Nat} {ao aD : Nat} (hI : WI ccnt ad) (hWN : WN ad ao aD) (hfl : l.stackTraces = false) {N M : Int} (σ : St) (d j : Int) (hv : Inv N M σ) (hN : N ≤ 1000000) (hM : 0 ≤ M ∧ M ≤ 1000000) (hr_d : -2147483648 ≤ d ∧ d < 2147483648) (hr_j : -2147483648 ≤ j ∧ j < 2147483648) (o : Int64) (d9 : UInt64) : GW l yL_queued wsL_queued ({ frames := 8, cells := 1, slots := 6, locals := 133 } : Room) Dg cA cL cD ad oc ao aD (cE cA ad σ) o d9 [.ref (ad 0 0), .int (zi d), .int (zi j), .ref ao] (cd_queued σ d j) (cE cA ad (stp (cd_queued σ d j) σ σ)) (bx (cd_queued σ d j) (zi (σ 16 (6 + d) j)).toInt64 o) d9 := by
  have hA := hv.A
  unfold IvA at hA
  by_cases c0 : 0 ≤ d ∧ d < 6
  · by_cases c1 : 0 ≤ j ∧ j < σ 17 (6 + d) 0
    · have e : cd_queued σ d j = 0 := by unfold cd_queued; rw [if_pos c0, if_pos c1]
      rw [e, stp_0, bx_0]
      intro sz
      refine w_ent (cc := cL_queued) (maxL := 5) (ret := (some .int)) (hh := [(0, 10, 13, 19), (0, 10, 17, 42)]) (by decide) rfl hI (Nat.le_of_ble_eq_true rfl) ?_
      intro pgm env s₀ m₀ bel mth cod hX htab hK2 hNc hW hO hD hS hsz ls hl
      subst hsz
      have hC := hX.1
      have hx := hC.1
      have hb := hC.2.1
      have hts := hC.2.2.2.1
      have hl : lv_has ls 5 [(0, .ref (ad 0 0)), (1, .int (zi d)), (2, .int (zi j)), (3, .ref ao)] := hl
      refine lv_aload_n hx hb dL_queued_0 rfl (lv_at hl 3 rfl) ?_
      refine k_iconst hC dL_queued_1 ?_
      refine lv_aload_n hx hb dL_queued_2 rfl (lv_at hl 0 rfl) ?_
      refine lv_iload_n hx hb dL_queued_3 rfl (lv_at hl 1 rfl) ?_
      refine lv_iload_n hx hb dL_queued_4 rfl (lv_at hl 2 rfl) ?_
      refine k_callI (As := [.int (zi d), .int (zi j)]) (rest := [.int (zi 0), .ref ao]) hX hl.1 (m_queued hI σ d j hv (by omega) (by omega)) (cwV 2 hts gL_queued_X7_queued rfl rfl rfl (by decide +kernel) ⟨Nat.le_of_ble_eq_true rfl, Nat.le_of_ble_eq_true rfl⟩) (rc_KR hC hW) hW hS ⟨Nat.zero_le _, Nat.zero_le _⟩ rfl rfl (Nat.le_of_ble_eq_true rfl) dL_queued_5 (fun H locs hW hS hz hk => ?_)
      have hO := wo_kept (fun t i x y => (hWN.2 t i x y).1) hO hk
      have hD := wo_kept (fun t i x y => (hWN.2 t i x y).2) hD hk
      refine lv_i2l hx hb dL_queued_8 rfl ?_
      refine w_last hC hK2 hWN (Or.inl rfl) hW hO hD hS dL_queued_9 (fun H locs hW hO hD hS => ?_)
      refine lv_goto (tgt := 21) hx hb dL_queued_10 (by decide) ?_
      refine k_iconst hC dL_queued_21 ?_
      exact w_ret hX hW hO hD hS (Nat.zero_le _) (Nat.zero_le _) dL_queued_22
    · have e : cd_queued σ d j = 2 := by unfold cd_queued; rw [if_pos c0, if_neg c1]
      rw [e, stp_1 (by decide), bx_1 (by decide)]
      intro sz
      refine w_ent (cc := cL_queued) (maxL := 5) (ret := (some .int)) (hh := [(0, 10, 13, 19), (0, 10, 17, 42)]) (by decide) rfl hI (Nat.le_of_ble_eq_true rfl) ?_
      intro pgm env s₀ m₀ bel mth cod hX htab hK2 hNc hW hO hD hS hsz ls hl
      subst hsz
      have hC := hX.1
      have hx := hC.1
      have hb := hC.2.1
      have hts := hC.2.2.2.1
      have hl : lv_has ls 5 [(0, .ref (ad 0 0)), (1, .int (zi d)), (2, .int (zi j)), (3, .ref ao)] := hl
      refine lv_aload_n hx hb dL_queued_0 rfl (lv_at hl 3 rfl) ?_
      refine k_iconst hC dL_queued_1 ?_
      refine lv_aload_n hx hb dL_queued_2 rfl (lv_at hl 0 rfl) ?_
      refine lv_iload_n hx hb dL_queued_3 rfl (lv_at hl 1 rfl) ?_
      refine lv_iload_n hx hb dL_queued_4 rfl (lv_at hl 2 rfl) ?_
      have hl_19 := hts (.classLink RL 19 "java/lang/IndexOutOfBoundsException") (by decide +kernel)
      have hl_42 := hts (.classLink RL 42 "java/util/NoSuchElementException") (by decide +kernel)
      refine w_caught (rest := [.int (zi 0), .ref ao]) (As := [.int (zi d), .int (zi j)]) (name := "java/util/NoSuchElementException") [⟨0, 10, 13, 19⟩] ⟨0, 10, 17, 42⟩ [] (tgt := 17) hX htab (List.forall_mem_cons.mpr ⟨⟨by decide, _, hl_19, hNc ("java/util/NoSuchElementException", "java/lang/IndexOutOfBoundsException") (by decide)⟩, (fun _ h => absurd h List.not_mem_nil)⟩) (by decide) (by decide) hl_42 (by decide) rfl hl.1 (m_queued_n hI hfl σ d j hv (by omega) (by omega) (by omega)) (cwV 2 hts gL_queued_X7_queued rfl rfl rfl (by decide +kernel) ⟨Nat.le_of_ble_eq_true rfl, Nat.le_of_ble_eq_true rfl⟩) (rc_KR hC hW) hW hS ⟨Nat.le_of_ble_eq_true rfl, Nat.le_of_ble_eq_true rfl⟩ rfl rfl (Nat.le_of_ble_eq_true rfl) dL_queued_5 (fun H locs q hW hS hz hk => ?_)
      have hO := wo_kept (fun t i x y => (hWN.2 t i x y).1) hO hk
      have hD := wo_kept (fun t i x y => (hWN.2 t i x y).2) hD hk
      refine lv_astore (lv' := [(4, .ref q), (0, .ref (ad 0 0)), (1, .int (zi d)), (2, .int (zi j)), (3, .ref ao)]) hx hb dL_queued_17 hl (by decide) rfl (fun ls hl => ?_)
      refine k_iconst hC dL_queued_19 ?_
      have hW := gh (u := 31) (i := 0) (j := 0) (v := 2) (fun _ _ => rfl) hW
      exact w_ret hX hW hO hD hS (Nat.le_refl _) (Nat.le_refl _) dL_queued_20
  · have e : cd_queued σ d j = 1 := by unfold cd_queued; rw [if_neg c0]
    rw [e, stp_1 (by decide), bx_1 (by decide)]
    intro sz
    refine w_ent (cc := cL_queued) (maxL := 5) (ret := (some .int)) (hh := [(0, 10, 13, 19), (0, 10, 17, 42)]) (by decide) rfl hI (Nat.le_of_ble_eq_true rfl) ?_
    intro pgm env s₀ m₀ bel mth cod hX htab hK2 hNc hW hO hD hS hsz ls hl
    subst hsz
    have hC := hX.1
    have hx := hC.1
    have hb := hC.2.1
    have hts := hC.2.2.2.1
    have hl : lv_has ls 5 [(0, .ref (ad 0 0)), (1, .int (zi d)), (2, .int (zi j)), (3, .ref ao)] := hl
    refine lv_aload_n hx hb dL_queued_0 rfl (lv_at hl 3 rfl) ?_
    refine k_iconst hC dL_queued_1 ?_
    refine lv_aload_n hx hb dL_queued_2 rfl (lv_at hl 0 rfl) ?_
    refine lv_iload_n hx hb dL_queued_3 rfl (lv_at hl 1 rfl) ?_
    refine lv_iload_n hx hb dL_queued_4 rfl (lv_at hl 2 rfl) ?_
    have hl_19 := hts (.classLink RL 19 "java/lang/IndexOutOfBoundsException") (by decide +kernel)
    refine w_caught (rest := [.int (zi 0), .ref ao]) (As := [.int (zi d), .int (zi j)]) (name := "java/lang/IndexOutOfBoundsException") [] ⟨0, 10, 13, 19⟩ [⟨0, 10, 17, 42⟩] (tgt := 13) hX htab (fun _ h => absurd h List.not_mem_nil) (by decide) (by decide) hl_19 (by decide) rfl hl.1 (m_queued_x hI hfl σ d j (by omega) (by omega)) (cwV 2 hts gL_queued_X7_queued rfl rfl rfl (by decide +kernel) ⟨Nat.le_of_ble_eq_true rfl, Nat.le_of_ble_eq_true rfl⟩) (rc_KR hC hW) hW hS ⟨Nat.le_of_ble_eq_true rfl, Nat.le_of_ble_eq_true rfl⟩ rfl rfl (Nat.le_of_ble_eq_true rfl) dL_queued_5 (fun H locs q hW hS hz hk => ?_)
    have hO := wo_kept (fun t i x y => (hWN.2 t i x y).1) hO hk
    have hD := wo_kept (fun t i x y => (hWN.2 t i x y).2) hD hk
    refine lv_astore (lv' := [(4, .ref q), (0, .ref (ad 0 0)), (1, .int (zi d)), (2, .int (zi j)), (3, .ref ao)]) hx hb dL_queued_13 hl (by decide) rfl (fun ls hl => ?_)
    refine k_iconst hC dL_queued_15 ?_
    have hW := gh (u := 31) (i := 0) (j := 0) (v := 1) (fun _ _ => rfl) hW
    exact w_ret hX hW hO hD hS (Nat.le_refl _) (Nat.le_refl _) dL_queued_16
set_option maxHeartbeats 2000000 in
set_option maxRecDepth 100000 in
theorem w_visitor {l : Launch} {Dg : va_G} {cA : Nat → ClassId} {cL cD : ClassId} {ad : Nat → Int → Nat} {oc : Nat → Nat} {ao aD : Nat} (hI : WI ccnt ad) (hWN : WN ad ao aD) (hfl : l.stackTraces = false) {N M : Int} (σ : St) (hv : Inv N M σ) (hN : N ≤ 1000000) (hM : 0 ≤ M ∧ M ≤ 1000000) (o : Int64) (d9 : UInt64) : GW l yL_visitor wsL_visitor ({ frames := 7, cells := 1, slots := 6, locals := 110 } : Room) Dg cA cL cD ad oc ao aD (cE cA ad σ) o d9 [.ref (ad 0 0), .ref ao] (cd_visitor σ) (cE cA ad (stp (cd_visitor σ) (ups σ 28 0 0 (σ 28 0 0 + 1)) σ)) (bx (cd_visitor σ) (zi (σ 28 0 0)).toInt64 o) d9 := by
  have hA := hv.A
  unfold IvA at hA
  by_cases c0 : σ 28 0 0 < 10
  · have e : cd_visitor σ = 0 := by unfold cd_visitor; rw [if_pos c0]
    rw [e, stp_0, bx_0]
    intro sz
    refine w_ent (cc := cL_visitor) (maxL := 3) (ret := (some .int)) (hh := [(0, 8, 11, 13)]) (by decide) rfl hI (Nat.le_of_ble_eq_true rfl) ?_
    intro pgm env s₀ m₀ bel mth cod hX htab hK2 hNc hW hO hD hS hsz ls hl
    subst hsz
    have hC := hX.1
    have hx := hC.1
    have hb := hC.2.1
    have hts := hC.2.2.2.1
    have hl : lv_has ls 3 [(0, .ref (ad 0 0)), (1, .ref ao)] := hl
    refine lv_aload_n hx hb dL_visitor_0 rfl (lv_at hl 1 rfl) ?_
    refine k_iconst hC dL_visitor_1 ?_
    refine lv_aload_n hx hb dL_visitor_2 rfl (lv_at hl 0 rfl) ?_
    refine k_callI (As := []) (rest := [.int (zi 0), .ref ao]) hX hl.1 (m_visitor hI σ (by omega)) (cwV 0 hts gL_visitor_X7_visitor rfl rfl rfl (by decide +kernel) ⟨Nat.le_of_ble_eq_true rfl, Nat.le_of_ble_eq_true rfl⟩) (rc_KR hC hW) hW hS ⟨Nat.zero_le _, Nat.zero_le _⟩ rfl rfl (Nat.le_of_ble_eq_true rfl) dL_visitor_3 (fun H locs hW hS hz hk => ?_)
    have hO := wo_kept (fun t i x y => (hWN.2 t i x y).1) hO hk
    have hD := wo_kept (fun t i x y => (hWN.2 t i x y).2) hD hk
    refine lv_i2l hx hb dL_visitor_6 rfl ?_
    refine w_last hC hK2 hWN (Or.inl rfl) hW hO hD hS dL_visitor_7 (fun H locs hW hO hD hS => ?_)
    refine lv_goto (tgt := 14) hx hb dL_visitor_8 (by decide) ?_
    refine k_iconst hC dL_visitor_14 ?_
    exact w_ret hX hW hO hD hS (Nat.zero_le _) (Nat.zero_le _) dL_visitor_15
  · have e : cd_visitor σ = 1 := by unfold cd_visitor; rw [if_neg c0]
    rw [e, stp_1 (by decide), bx_1 (by decide)]
    intro sz
    refine w_ent (cc := cL_visitor) (maxL := 3) (ret := (some .int)) (hh := [(0, 8, 11, 13)]) (by decide) rfl hI (Nat.le_of_ble_eq_true rfl) ?_
    intro pgm env s₀ m₀ bel mth cod hX htab hK2 hNc hW hO hD hS hsz ls hl
    subst hsz
    have hC := hX.1
    have hx := hC.1
    have hb := hC.2.1
    have hts := hC.2.2.2.1
    have hl : lv_has ls 3 [(0, .ref (ad 0 0)), (1, .ref ao)] := hl
    refine lv_aload_n hx hb dL_visitor_0 rfl (lv_at hl 1 rfl) ?_
    refine k_iconst hC dL_visitor_1 ?_
    refine lv_aload_n hx hb dL_visitor_2 rfl (lv_at hl 0 rfl) ?_
    have hl_13 := hts (.classLink RL 13 "java/lang/IllegalStateException") (by decide +kernel)
    refine w_caught (rest := [.int (zi 0), .ref ao]) (As := []) (name := "java/lang/IllegalStateException") [] ⟨0, 8, 11, 13⟩ [] (tgt := 11) hX htab (fun _ h => absurd h List.not_mem_nil) (by decide) (by decide) hl_13 (by decide) rfl hl.1 (m_visitor_s hI hfl σ (by omega)) (cwV 0 hts gL_visitor_X7_visitor rfl rfl rfl (by decide +kernel) ⟨Nat.le_of_ble_eq_true rfl, Nat.le_of_ble_eq_true rfl⟩) (rc_KR hC hW) hW hS ⟨Nat.le_of_ble_eq_true rfl, Nat.le_of_ble_eq_true rfl⟩ rfl rfl (Nat.le_of_ble_eq_true rfl) dL_visitor_3 (fun H locs q hW hS hz hk => ?_)
    have hO := wo_kept (fun t i x y => (hWN.2 t i x y).1) hO hk
    have hD := wo_kept (fun t i x y => (hWN.2 t i x y).2) hD hk
    refine lv_astore_n (lv' := [(2, .ref q), (0, .ref (ad 0 0)), (1, .ref ao)]) hx hb dL_visitor_11 rfl hl (by decide) rfl (fun ls hl => ?_)
    refine k_iconst hC dL_visitor_12 ?_
    have hW := gh (u := 31) (i := 0) (j := 0) (v := 1) (fun _ _ => rfl) hW
    exact w_ret hX hW hO hD hS (Nat.le_refl _) (Nat.le_refl _) dL_visitor_13
set_option maxHeartbeats 2000000 in
set_option maxRecDepth 100000 in
theorem w_go {l : Launch} {Dg : va_G} {cA : Nat → ClassId} {cL cD : ClassId} {ad : Nat → Int → Nat} {oc : Nat → Nat} {ao aD : Nat} (hI : WI ccnt ad) (hWN : WN ad ao aD) (hfl : l.stackTraces = false) {N M : Int} (σ : St) (v k : Int) (hv : Inv N M σ) (hN : N ≤ 1000000) (hM : 0 ≤ M ∧ M ≤ 1000000) (hr_v : -2147483648 ≤ v ∧ v < 2147483648) (hr_k : -2147483648 ≤ k ∧ k < 2147483648) (o : Int64) (d9 : UInt64) : GW l yL_go wsL_go ({ frames := 8, cells := 1, slots := 6, locals := 134 } : Room) Dg cA cL cD ad oc ao aD (cE cA ad σ) o d9 [.ref (ad 0 0), .int (zi v), .int (zi k), .ref ao] (cd_go σ v k) (cE cA ad (stp (cd_go σ v k) (ups σ 22 v 0 k) σ)) (bx (cd_go σ v k) (zi (σ 22 v 0)).toInt64 o) d9 := by
  have hA := hv.A
  unfold IvA at hA
  by_cases c0 : 0 ≤ v ∧ v < σ 28 0 0
  · by_cases c1 : k = -1 ∨ (0 ≤ k ∧ k < σ 27 0 0)
    · have e : cd_go σ v k = 0 := by unfold cd_go; rw [if_pos c0, if_pos c1]
      rw [e, stp_0, bx_0]
      intro sz
      refine w_ent (cc := cL_go) (maxL := 5) (ret := (some .int)) (hh := [(0, 10, 13, 19)]) (by decide) rfl hI (Nat.le_of_ble_eq_true rfl) ?_
      intro pgm env s₀ m₀ bel mth cod hX htab hK2 hNc hW hO hD hS hsz ls hl
      subst hsz
      have hC := hX.1
      have hx := hC.1
      have hb := hC.2.1
      have hts := hC.2.2.2.1
      have hl : lv_has ls 5 [(0, .ref (ad 0 0)), (1, .int (zi v)), (2, .int (zi k)), (3, .ref ao)] := hl
      refine lv_aload_n hx hb dL_go_0 rfl (lv_at hl 3 rfl) ?_
      refine k_iconst hC dL_go_1 ?_
      refine lv_aload_n hx hb dL_go_2 rfl (lv_at hl 0 rfl) ?_
      refine lv_iload_n hx hb dL_go_3 rfl (lv_at hl 1 rfl) ?_
      refine lv_iload_n hx hb dL_go_4 rfl (lv_at hl 2 rfl) ?_
      refine k_callI (As := [.int (zi v), .int (zi k)]) (rest := [.int (zi 0), .ref ao]) hX hl.1 (m_go hI σ v k hv (by omega) (by omega)) (cwV 2 hts gL_go_X7_go rfl rfl rfl (by decide +kernel) ⟨Nat.le_of_ble_eq_true rfl, Nat.le_of_ble_eq_true rfl⟩) (rc_KR hC hW) hW hS ⟨Nat.zero_le _, Nat.zero_le _⟩ rfl rfl (Nat.le_of_ble_eq_true rfl) dL_go_5 (fun H locs hW hS hz hk => ?_)
      have hO := wo_kept (fun t i x y => (hWN.2 t i x y).1) hO hk
      have hD := wo_kept (fun t i x y => (hWN.2 t i x y).2) hD hk
      refine lv_i2l hx hb dL_go_8 rfl ?_
      refine w_last hC hK2 hWN (Or.inl rfl) hW hO hD hS dL_go_9 (fun H locs hW hO hD hS => ?_)
      refine lv_goto (tgt := 17) hx hb dL_go_10 (by decide) ?_
      refine k_iconst hC dL_go_17 ?_
      exact w_ret hX hW hO hD hS (Nat.zero_le _) (Nat.zero_le _) dL_go_18
    · have e : cd_go σ v k = 1 := by unfold cd_go; rw [if_pos c0, if_neg c1]
      rw [e, stp_1 (by decide), bx_1 (by decide)]
      intro sz
      refine w_ent (cc := cL_go) (maxL := 5) (ret := (some .int)) (hh := [(0, 10, 13, 19)]) (by decide) rfl hI (Nat.le_of_ble_eq_true rfl) ?_
      intro pgm env s₀ m₀ bel mth cod hX htab hK2 hNc hW hO hD hS hsz ls hl
      subst hsz
      have hC := hX.1
      have hx := hC.1
      have hb := hC.2.1
      have hts := hC.2.2.2.1
      have hl : lv_has ls 5 [(0, .ref (ad 0 0)), (1, .int (zi v)), (2, .int (zi k)), (3, .ref ao)] := hl
      refine lv_aload_n hx hb dL_go_0 rfl (lv_at hl 3 rfl) ?_
      refine k_iconst hC dL_go_1 ?_
      refine lv_aload_n hx hb dL_go_2 rfl (lv_at hl 0 rfl) ?_
      refine lv_iload_n hx hb dL_go_3 rfl (lv_at hl 1 rfl) ?_
      refine lv_iload_n hx hb dL_go_4 rfl (lv_at hl 2 rfl) ?_
      have hl_19 := hts (.classLink RL 19 "java/lang/IndexOutOfBoundsException") (by decide +kernel)
      refine w_caught (rest := [.int (zi 0), .ref ao]) (As := [.int (zi v), .int (zi k)]) (name := "java/lang/IndexOutOfBoundsException") [] ⟨0, 10, 13, 19⟩ [] (tgt := 13) hX htab (fun _ h => absurd h List.not_mem_nil) (by decide) (by decide) hl_19 (by decide) rfl hl.1 (m_go_y hI hfl σ v k hv (by omega) (by omega) (by omega)) (cwV 2 hts gL_go_X7_go rfl rfl rfl (by decide +kernel) ⟨Nat.le_of_ble_eq_true rfl, Nat.le_of_ble_eq_true rfl⟩) (rc_KR hC hW) hW hS ⟨Nat.le_of_ble_eq_true rfl, Nat.le_of_ble_eq_true rfl⟩ rfl rfl (Nat.le_of_ble_eq_true rfl) dL_go_5 (fun H locs q hW hS hz hk => ?_)
      have hO := wo_kept (fun t i x y => (hWN.2 t i x y).1) hO hk
      have hD := wo_kept (fun t i x y => (hWN.2 t i x y).2) hD hk
      refine lv_astore (lv' := [(4, .ref q), (0, .ref (ad 0 0)), (1, .int (zi v)), (2, .int (zi k)), (3, .ref ao)]) hx hb dL_go_13 hl (by decide) rfl (fun ls hl => ?_)
      refine k_iconst hC dL_go_15 ?_
      have hW := gh (u := 31) (i := 0) (j := 0) (v := 1) (fun _ _ => rfl) hW
      exact w_ret hX hW hO hD hS (Nat.le_refl _) (Nat.le_refl _) dL_go_16
  · have e : cd_go σ v k = 1 := by unfold cd_go; rw [if_neg c0]
    rw [e, stp_1 (by decide), bx_1 (by decide)]
    intro sz
    refine w_ent (cc := cL_go) (maxL := 5) (ret := (some .int)) (hh := [(0, 10, 13, 19)]) (by decide) rfl hI (Nat.le_of_ble_eq_true rfl) ?_
    intro pgm env s₀ m₀ bel mth cod hX htab hK2 hNc hW hO hD hS hsz ls hl
    subst hsz
    have hC := hX.1
    have hx := hC.1
    have hb := hC.2.1
    have hts := hC.2.2.2.1
    have hl : lv_has ls 5 [(0, .ref (ad 0 0)), (1, .int (zi v)), (2, .int (zi k)), (3, .ref ao)] := hl
    refine lv_aload_n hx hb dL_go_0 rfl (lv_at hl 3 rfl) ?_
    refine k_iconst hC dL_go_1 ?_
    refine lv_aload_n hx hb dL_go_2 rfl (lv_at hl 0 rfl) ?_
    refine lv_iload_n hx hb dL_go_3 rfl (lv_at hl 1 rfl) ?_
    refine lv_iload_n hx hb dL_go_4 rfl (lv_at hl 2 rfl) ?_
    have hl_19 := hts (.classLink RL 19 "java/lang/IndexOutOfBoundsException") (by decide +kernel)
    refine w_caught (rest := [.int (zi 0), .ref ao]) (As := [.int (zi v), .int (zi k)]) (name := "java/lang/IndexOutOfBoundsException") [] ⟨0, 10, 13, 19⟩ [] (tgt := 13) hX htab (fun _ h => absurd h List.not_mem_nil) (by decide) (by decide) hl_19 (by decide) rfl hl.1 (m_go_x hI hfl σ v k hv (by omega) (by omega)) (cwV 2 hts gL_go_X7_go rfl rfl rfl (by decide +kernel) ⟨Nat.le_of_ble_eq_true rfl, Nat.le_of_ble_eq_true rfl⟩) (rc_KR hC hW) hW hS ⟨Nat.le_of_ble_eq_true rfl, Nat.le_of_ble_eq_true rfl⟩ rfl rfl (Nat.le_of_ble_eq_true rfl) dL_go_5 (fun H locs q hW hS hz hk => ?_)
    have hO := wo_kept (fun t i x y => (hWN.2 t i x y).1) hO hk
    have hD := wo_kept (fun t i x y => (hWN.2 t i x y).2) hD hk
    refine lv_astore (lv' := [(4, .ref q), (0, .ref (ad 0 0)), (1, .int (zi v)), (2, .int (zi k)), (3, .ref ao)]) hx hb dL_go_13 hl (by decide) rfl (fun ls hl => ?_)
    refine k_iconst hC dL_go_15 ?_
    have hW := gh (u := 31) (i := 0) (j := 0) (v := 1) (fun _ _ => rfl) hW
    exact w_ret hX hW hO hD hS (Nat.le_refl _) (Nat.le_refl _) dL_go_16
set_option maxHeartbeats 2000000 in
set_option maxRecDepth 100000 in
theorem w_ask {l : Launch} {Dg : va_G} {cA : Nat → ClassId} {cL cD : ClassId} {ad : Nat → Int → Nat} {oc : Nat → Nat} {ao aD : Nat} (hI : WI ccnt ad) (hWN : WN ad ao aD) (hfl : l.stackTraces = false) {N M : Int} (σ : St) (v n : Int) (hv : Inv N M σ) (hN : N ≤ 1000000) (hM : 0 ≤ M ∧ M ≤ 1000000) (hr_v : -2147483648 ≤ v ∧ v < 2147483648) (hr_n : -2147483648 ≤ n ∧ n < 2147483648) (o : Int64) (d9 : UInt64) : GW l yL_ask wsL_ask ({ frames := 8, cells := 1, slots := 6, locals := 134 } : Room) Dg cA cL cD ad oc ao aD (cE cA ad σ) o d9 [.ref (ad 0 0), .int (zi v), .int (zi n), .ref ao] (cd_ask σ v n) (cE cA ad (stp (cd_ask σ v n) (ups (ups σ 21 v n 1) 20 v n (σ 20 v n + 1)) σ)) (bx (cd_ask σ v n) (zi (if 0 < σ 19 v n then 1 else 0)).toInt64 o) d9 := by
  have hA := hv.A
  unfold IvA at hA
  by_cases c0 : 0 ≤ v ∧ v < σ 28 0 0
  · by_cases c1 : 0 ≤ n ∧ n < 100
    · have e : cd_ask σ v n = 0 := by unfold cd_ask; rw [if_pos c0, if_pos c1]
      rw [e, stp_0, bx_0]
      by_cases z : 0 < σ 19 v n
      · rw [show (zi (if 0 < σ 19 v n then 1 else 0)).toInt64 = 1 from by rw [if_pos z]; decide]
        intro sz
        refine w_ent (cc := cL_ask) (maxL := 5) (ret := (some .int)) (hh := [(0, 17, 20, 19), (0, 17, 24, 21)]) (by decide) rfl hI (Nat.le_of_ble_eq_true rfl) ?_
        intro pgm env s₀ m₀ bel mth cod hX htab hK2 hNc hW hO hD hS hsz ls hl
        subst hsz
        have hC := hX.1
        have hx := hC.1
        have hb := hC.2.1
        have hts := hC.2.2.2.1
        have hl : lv_has ls 5 [(0, .ref (ad 0 0)), (1, .int (zi v)), (2, .int (zi n)), (3, .ref ao)] := hl
        refine lv_aload_n hx hb dL_ask_0 rfl (lv_at hl 3 rfl) ?_
        refine k_iconst hC dL_ask_1 ?_
        refine lv_aload_n hx hb dL_ask_2 rfl (lv_at hl 0 rfl) ?_
        refine lv_iload_n hx hb dL_ask_3 rfl (lv_at hl 1 rfl) ?_
        refine lv_iload_n hx hb dL_ask_4 rfl (lv_at hl 2 rfl) ?_
        refine k_callI (As := [.int (zi v), .int (zi n)]) (rest := [.int (zi 0), .ref ao]) hX hl.1 (m_ask hI σ v n hv (by omega) (by omega) (by omega)) (cwV 2 hts gL_ask_X7_ask rfl rfl rfl (by decide +kernel) ⟨Nat.le_of_ble_eq_true rfl, Nat.le_of_ble_eq_true rfl⟩) (rc_KR hC hW) hW hS ⟨Nat.zero_le _, Nat.zero_le _⟩ rfl rfl (Nat.le_of_ble_eq_true rfl) dL_ask_5 (fun H locs hW hS hz hk => ?_)
        have hO := wo_kept (fun t i x y => (hWN.2 t i x y).1) hO hk
        have hD := wo_kept (fun t i x y => (hWN.2 t i x y).2) hD hk
        refine k_top0 (if_pos z) ?_
        refine k_if_eq (tgt := 15) hC dL_ask_8 (by decide) (by decide) (fun c => absurd c (by decide)) (fun _ => ?_)
        refine lv_lconst (v := 1) hx hb dL_ask_11 (by decide) ?_
        refine lv_goto (tgt := 16) hx hb dL_ask_12 (by decide) ?_
        refine w_last hC hK2 hWN (Or.inl rfl) hW hO hD hS dL_ask_16 (fun H locs hW hO hD hS => ?_)
        refine lv_goto (tgt := 28) hx hb dL_ask_17 (by decide) ?_
        refine k_iconst hC dL_ask_28 ?_
        exact w_ret hX hW hO hD hS (Nat.zero_le _) (Nat.zero_le _) dL_ask_29
      · rw [show (zi (if 0 < σ 19 v n then 1 else 0)).toInt64 = 0 from by rw [if_neg z]; decide]
        intro sz
        refine w_ent (cc := cL_ask) (maxL := 5) (ret := (some .int)) (hh := [(0, 17, 20, 19), (0, 17, 24, 21)]) (by decide) rfl hI (Nat.le_of_ble_eq_true rfl) ?_
        intro pgm env s₀ m₀ bel mth cod hX htab hK2 hNc hW hO hD hS hsz ls hl
        subst hsz
        have hC := hX.1
        have hx := hC.1
        have hb := hC.2.1
        have hts := hC.2.2.2.1
        have hl : lv_has ls 5 [(0, .ref (ad 0 0)), (1, .int (zi v)), (2, .int (zi n)), (3, .ref ao)] := hl
        refine lv_aload_n hx hb dL_ask_0 rfl (lv_at hl 3 rfl) ?_
        refine k_iconst hC dL_ask_1 ?_
        refine lv_aload_n hx hb dL_ask_2 rfl (lv_at hl 0 rfl) ?_
        refine lv_iload_n hx hb dL_ask_3 rfl (lv_at hl 1 rfl) ?_
        refine lv_iload_n hx hb dL_ask_4 rfl (lv_at hl 2 rfl) ?_
        refine k_callI (As := [.int (zi v), .int (zi n)]) (rest := [.int (zi 0), .ref ao]) hX hl.1 (m_ask hI σ v n hv (by omega) (by omega) (by omega)) (cwV 2 hts gL_ask_X7_ask rfl rfl rfl (by decide +kernel) ⟨Nat.le_of_ble_eq_true rfl, Nat.le_of_ble_eq_true rfl⟩) (rc_KR hC hW) hW hS ⟨Nat.zero_le _, Nat.zero_le _⟩ rfl rfl (Nat.le_of_ble_eq_true rfl) dL_ask_5 (fun H locs hW hS hz hk => ?_)
        have hO := wo_kept (fun t i x y => (hWN.2 t i x y).1) hO hk
        have hD := wo_kept (fun t i x y => (hWN.2 t i x y).2) hD hk
        refine k_top0 (if_neg z) ?_
        refine k_if_eq (tgt := 15) hC dL_ask_8 (by decide) (by decide) (fun _ => ?_) (fun c => absurd rfl c)
        refine lv_lconst (v := 0) hx hb dL_ask_15 (by decide) ?_
        refine w_last hC hK2 hWN (Or.inl rfl) hW hO hD hS dL_ask_16 (fun H locs hW hO hD hS => ?_)
        refine lv_goto (tgt := 28) hx hb dL_ask_17 (by decide) ?_
        refine k_iconst hC dL_ask_28 ?_
        exact w_ret hX hW hO hD hS (Nat.zero_le _) (Nat.zero_le _) dL_ask_29
    · have e : cd_ask σ v n = 2 := by unfold cd_ask; rw [if_pos c0, if_neg c1]
      rw [e, stp_1 (by decide), bx_1 (by decide)]
      intro sz
      refine w_ent (cc := cL_ask) (maxL := 5) (ret := (some .int)) (hh := [(0, 17, 20, 19), (0, 17, 24, 21)]) (by decide) rfl hI (Nat.le_of_ble_eq_true rfl) ?_
      intro pgm env s₀ m₀ bel mth cod hX htab hK2 hNc hW hO hD hS hsz ls hl
      subst hsz
      have hC := hX.1
      have hx := hC.1
      have hb := hC.2.1
      have hts := hC.2.2.2.1
      have hl : lv_has ls 5 [(0, .ref (ad 0 0)), (1, .int (zi v)), (2, .int (zi n)), (3, .ref ao)] := hl
      refine lv_aload_n hx hb dL_ask_0 rfl (lv_at hl 3 rfl) ?_
      refine k_iconst hC dL_ask_1 ?_
      refine lv_aload_n hx hb dL_ask_2 rfl (lv_at hl 0 rfl) ?_
      refine lv_iload_n hx hb dL_ask_3 rfl (lv_at hl 1 rfl) ?_
      refine lv_iload_n hx hb dL_ask_4 rfl (lv_at hl 2 rfl) ?_
      have hl_19 := hts (.classLink RL 19 "java/lang/IndexOutOfBoundsException") (by decide +kernel)
      have hl_21 := hts (.classLink RL 21 "java/lang/IllegalArgumentException") (by decide +kernel)
      refine w_caught (rest := [.int (zi 0), .ref ao]) (As := [.int (zi v), .int (zi n)]) (name := "java/lang/IllegalArgumentException") [⟨0, 17, 20, 19⟩] ⟨0, 17, 24, 21⟩ [] (tgt := 24) hX htab (List.forall_mem_cons.mpr ⟨⟨by decide, _, hl_19, hNc ("java/lang/IllegalArgumentException", "java/lang/IndexOutOfBoundsException") (by decide)⟩, (fun _ h => absurd h List.not_mem_nil)⟩) (by decide) (by decide) hl_21 (by decide) rfl hl.1 (m_ask_s hI hfl σ v n hv (by omega) (by omega) (by omega)) (cwV 2 hts gL_ask_X7_ask rfl rfl rfl (by decide +kernel) ⟨Nat.le_of_ble_eq_true rfl, Nat.le_of_ble_eq_true rfl⟩) (rc_KR hC hW) hW hS ⟨Nat.le_of_ble_eq_true rfl, Nat.le_of_ble_eq_true rfl⟩ rfl rfl (Nat.le_of_ble_eq_true rfl) dL_ask_5 (fun H locs q hW hS hz hk => ?_)
      have hO := wo_kept (fun t i x y => (hWN.2 t i x y).1) hO hk
      have hD := wo_kept (fun t i x y => (hWN.2 t i x y).2) hD hk
      refine lv_astore (lv' := [(4, .ref q), (0, .ref (ad 0 0)), (1, .int (zi v)), (2, .int (zi n)), (3, .ref ao)]) hx hb dL_ask_24 hl (by decide) rfl (fun ls hl => ?_)
      refine k_iconst hC dL_ask_26 ?_
      have hW := gh (u := 31) (i := 0) (j := 0) (v := 2) (fun _ _ => rfl) hW
      exact w_ret hX hW hO hD hS (Nat.le_refl _) (Nat.le_refl _) dL_ask_27
  · have e : cd_ask σ v n = 1 := by unfold cd_ask; rw [if_neg c0]
    rw [e, stp_1 (by decide), bx_1 (by decide)]
    intro sz
    refine w_ent (cc := cL_ask) (maxL := 5) (ret := (some .int)) (hh := [(0, 17, 20, 19), (0, 17, 24, 21)]) (by decide) rfl hI (Nat.le_of_ble_eq_true rfl) ?_
    intro pgm env s₀ m₀ bel mth cod hX htab hK2 hNc hW hO hD hS hsz ls hl
    subst hsz
    have hC := hX.1
    have hx := hC.1
    have hb := hC.2.1
    have hts := hC.2.2.2.1
    have hl : lv_has ls 5 [(0, .ref (ad 0 0)), (1, .int (zi v)), (2, .int (zi n)), (3, .ref ao)] := hl
    refine lv_aload_n hx hb dL_ask_0 rfl (lv_at hl 3 rfl) ?_
    refine k_iconst hC dL_ask_1 ?_
    refine lv_aload_n hx hb dL_ask_2 rfl (lv_at hl 0 rfl) ?_
    refine lv_iload_n hx hb dL_ask_3 rfl (lv_at hl 1 rfl) ?_
    refine lv_iload_n hx hb dL_ask_4 rfl (lv_at hl 2 rfl) ?_
    have hl_19 := hts (.classLink RL 19 "java/lang/IndexOutOfBoundsException") (by decide +kernel)
    refine w_caught (rest := [.int (zi 0), .ref ao]) (As := [.int (zi v), .int (zi n)]) (name := "java/lang/IndexOutOfBoundsException") [] ⟨0, 17, 20, 19⟩ [⟨0, 17, 24, 21⟩] (tgt := 20) hX htab (fun _ h => absurd h List.not_mem_nil) (by decide) (by decide) hl_19 (by decide) rfl hl.1 (m_ask_x hI hfl σ v n hv (by omega) (by omega)) (cwV 2 hts gL_ask_X7_ask rfl rfl rfl (by decide +kernel) ⟨Nat.le_of_ble_eq_true rfl, Nat.le_of_ble_eq_true rfl⟩) (rc_KR hC hW) hW hS ⟨Nat.le_of_ble_eq_true rfl, Nat.le_of_ble_eq_true rfl⟩ rfl rfl (Nat.le_of_ble_eq_true rfl) dL_ask_5 (fun H locs q hW hS hz hk => ?_)
    have hO := wo_kept (fun t i x y => (hWN.2 t i x y).1) hO hk
    have hD := wo_kept (fun t i x y => (hWN.2 t i x y).2) hD hk
    refine lv_astore (lv' := [(4, .ref q), (0, .ref (ad 0 0)), (1, .int (zi v)), (2, .int (zi n)), (3, .ref ao)]) hx hb dL_ask_20 hl (by decide) rfl (fun ls hl => ?_)
    refine k_iconst hC dL_ask_22 ?_
    have hW := gh (u := 31) (i := 0) (j := 0) (v := 1) (fun _ _ => rfl) hW
    exact w_ret hX hW hO hD hS (Nat.le_refl _) (Nat.le_refl _) dL_ask_23
set_option maxHeartbeats 2000000 in
set_option maxRecDepth 100000 in
theorem w_saw {l : Launch} {Dg : va_G} {cA : Nat → ClassId} {cL cD : ClassId} {ad : Nat → Int → Nat} {oc : Nat → Nat} {ao aD : Nat} (hI : WI ccnt ad) (hWN : WN ad ao aD) (hfl : l.stackTraces = false) {N M : Int} (σ : St) (v n : Int) (hv : Inv N M σ) (hN : N ≤ 1000000) (hM : 0 ≤ M ∧ M ≤ 1000000) (hr_v : -2147483648 ≤ v ∧ v < 2147483648) (hr_n : -2147483648 ≤ n ∧ n < 2147483648) (o : Int64) (d9 : UInt64) : GW l yL_saw wsL_saw ({ frames := 8, cells := 1, slots := 6, locals := 133 } : Room) Dg cA cL cD ad oc ao aD (cE cA ad σ) o d9 [.ref (ad 0 0), .int (zi v), .int (zi n), .ref ao] (cd_saw σ v n) (cE cA ad (stp (cd_saw σ v n) σ σ)) (bx (cd_saw σ v n) (zi (σ 19 v n)).toInt64 o) d9 := by
  have hA := hv.A
  unfold IvA at hA
  by_cases c0 : 0 ≤ v ∧ v < σ 28 0 0
  · by_cases c1 : 0 ≤ n ∧ n < 100
    · have e : cd_saw σ v n = 0 := by unfold cd_saw; rw [if_pos c0, if_pos c1]
      rw [e, stp_0, bx_0]
      intro sz
      refine w_ent (cc := cL_saw) (maxL := 5) (ret := (some .int)) (hh := [(0, 10, 13, 19), (0, 10, 17, 21)]) (by decide) rfl hI (Nat.le_of_ble_eq_true rfl) ?_
      intro pgm env s₀ m₀ bel mth cod hX htab hK2 hNc hW hO hD hS hsz ls hl
      subst hsz
      have hC := hX.1
      have hx := hC.1
      have hb := hC.2.1
      have hts := hC.2.2.2.1
      have hl : lv_has ls 5 [(0, .ref (ad 0 0)), (1, .int (zi v)), (2, .int (zi n)), (3, .ref ao)] := hl
      refine lv_aload_n hx hb dL_saw_0 rfl (lv_at hl 3 rfl) ?_
      refine k_iconst hC dL_saw_1 ?_
      refine lv_aload_n hx hb dL_saw_2 rfl (lv_at hl 0 rfl) ?_
      refine lv_iload_n hx hb dL_saw_3 rfl (lv_at hl 1 rfl) ?_
      refine lv_iload_n hx hb dL_saw_4 rfl (lv_at hl 2 rfl) ?_
      refine k_callI (As := [.int (zi v), .int (zi n)]) (rest := [.int (zi 0), .ref ao]) hX hl.1 (m_saw hI σ v n hv (by omega) (by omega)) (cwV 2 hts gL_saw_X7_saw rfl rfl rfl (by decide +kernel) ⟨Nat.le_of_ble_eq_true rfl, Nat.le_of_ble_eq_true rfl⟩) (rc_KR hC hW) hW hS ⟨Nat.zero_le _, Nat.zero_le _⟩ rfl rfl (Nat.le_of_ble_eq_true rfl) dL_saw_5 (fun H locs hW hS hz hk => ?_)
      have hO := wo_kept (fun t i x y => (hWN.2 t i x y).1) hO hk
      have hD := wo_kept (fun t i x y => (hWN.2 t i x y).2) hD hk
      refine lv_i2l hx hb dL_saw_8 rfl ?_
      refine w_last hC hK2 hWN (Or.inl rfl) hW hO hD hS dL_saw_9 (fun H locs hW hO hD hS => ?_)
      refine lv_goto (tgt := 21) hx hb dL_saw_10 (by decide) ?_
      refine k_iconst hC dL_saw_21 ?_
      exact w_ret hX hW hO hD hS (Nat.zero_le _) (Nat.zero_le _) dL_saw_22
    · have e : cd_saw σ v n = 2 := by unfold cd_saw; rw [if_pos c0, if_neg c1]
      rw [e, stp_1 (by decide), bx_1 (by decide)]
      intro sz
      refine w_ent (cc := cL_saw) (maxL := 5) (ret := (some .int)) (hh := [(0, 10, 13, 19), (0, 10, 17, 21)]) (by decide) rfl hI (Nat.le_of_ble_eq_true rfl) ?_
      intro pgm env s₀ m₀ bel mth cod hX htab hK2 hNc hW hO hD hS hsz ls hl
      subst hsz
      have hC := hX.1
      have hx := hC.1
      have hb := hC.2.1
      have hts := hC.2.2.2.1
      have hl : lv_has ls 5 [(0, .ref (ad 0 0)), (1, .int (zi v)), (2, .int (zi n)), (3, .ref ao)] := hl
      refine lv_aload_n hx hb dL_saw_0 rfl (lv_at hl 3 rfl) ?_
      refine k_iconst hC dL_saw_1 ?_
      refine lv_aload_n hx hb dL_saw_2 rfl (lv_at hl 0 rfl) ?_
      refine lv_iload_n hx hb dL_saw_3 rfl (lv_at hl 1 rfl) ?_
      refine lv_iload_n hx hb dL_saw_4 rfl (lv_at hl 2 rfl) ?_
      have hl_19 := hts (.classLink RL 19 "java/lang/IndexOutOfBoundsException") (by decide +kernel)
      have hl_21 := hts (.classLink RL 21 "java/lang/IllegalArgumentException") (by decide +kernel)
      refine w_caught (rest := [.int (zi 0), .ref ao]) (As := [.int (zi v), .int (zi n)]) (name := "java/lang/IllegalArgumentException") [⟨0, 10, 13, 19⟩] ⟨0, 10, 17, 21⟩ [] (tgt := 17) hX htab (List.forall_mem_cons.mpr ⟨⟨by decide, _, hl_19, hNc ("java/lang/IllegalArgumentException", "java/lang/IndexOutOfBoundsException") (by decide)⟩, (fun _ h => absurd h List.not_mem_nil)⟩) (by decide) (by decide) hl_21 (by decide) rfl hl.1 (m_saw_s hI hfl σ v n hv (by omega) (by omega) (by omega)) (cwV 2 hts gL_saw_X7_saw rfl rfl rfl (by decide +kernel) ⟨Nat.le_of_ble_eq_true rfl, Nat.le_of_ble_eq_true rfl⟩) (rc_KR hC hW) hW hS ⟨Nat.le_of_ble_eq_true rfl, Nat.le_of_ble_eq_true rfl⟩ rfl rfl (Nat.le_of_ble_eq_true rfl) dL_saw_5 (fun H locs q hW hS hz hk => ?_)
      have hO := wo_kept (fun t i x y => (hWN.2 t i x y).1) hO hk
      have hD := wo_kept (fun t i x y => (hWN.2 t i x y).2) hD hk
      refine lv_astore (lv' := [(4, .ref q), (0, .ref (ad 0 0)), (1, .int (zi v)), (2, .int (zi n)), (3, .ref ao)]) hx hb dL_saw_17 hl (by decide) rfl (fun ls hl => ?_)
      refine k_iconst hC dL_saw_19 ?_
      have hW := gh (u := 31) (i := 0) (j := 0) (v := 2) (fun _ _ => rfl) hW
      exact w_ret hX hW hO hD hS (Nat.le_refl _) (Nat.le_refl _) dL_saw_20
  · have e : cd_saw σ v n = 1 := by unfold cd_saw; rw [if_neg c0]
    rw [e, stp_1 (by decide), bx_1 (by decide)]
    intro sz
    refine w_ent (cc := cL_saw) (maxL := 5) (ret := (some .int)) (hh := [(0, 10, 13, 19), (0, 10, 17, 21)]) (by decide) rfl hI (Nat.le_of_ble_eq_true rfl) ?_
    intro pgm env s₀ m₀ bel mth cod hX htab hK2 hNc hW hO hD hS hsz ls hl
    subst hsz
    have hC := hX.1
    have hx := hC.1
    have hb := hC.2.1
    have hts := hC.2.2.2.1
    have hl : lv_has ls 5 [(0, .ref (ad 0 0)), (1, .int (zi v)), (2, .int (zi n)), (3, .ref ao)] := hl
    refine lv_aload_n hx hb dL_saw_0 rfl (lv_at hl 3 rfl) ?_
    refine k_iconst hC dL_saw_1 ?_
    refine lv_aload_n hx hb dL_saw_2 rfl (lv_at hl 0 rfl) ?_
    refine lv_iload_n hx hb dL_saw_3 rfl (lv_at hl 1 rfl) ?_
    refine lv_iload_n hx hb dL_saw_4 rfl (lv_at hl 2 rfl) ?_
    have hl_19 := hts (.classLink RL 19 "java/lang/IndexOutOfBoundsException") (by decide +kernel)
    refine w_caught (rest := [.int (zi 0), .ref ao]) (As := [.int (zi v), .int (zi n)]) (name := "java/lang/IndexOutOfBoundsException") [] ⟨0, 10, 13, 19⟩ [⟨0, 10, 17, 21⟩] (tgt := 13) hX htab (fun _ h => absurd h List.not_mem_nil) (by decide) (by decide) hl_19 (by decide) rfl hl.1 (m_saw_x hI hfl σ v n hv (by omega) (by omega)) (cwV 2 hts gL_saw_X7_saw rfl rfl rfl (by decide +kernel) ⟨Nat.le_of_ble_eq_true rfl, Nat.le_of_ble_eq_true rfl⟩) (rc_KR hC hW) hW hS ⟨Nat.le_of_ble_eq_true rfl, Nat.le_of_ble_eq_true rfl⟩ rfl rfl (Nat.le_of_ble_eq_true rfl) dL_saw_5 (fun H locs q hW hS hz hk => ?_)
    have hO := wo_kept (fun t i x y => (hWN.2 t i x y).1) hO hk
    have hD := wo_kept (fun t i x y => (hWN.2 t i x y).2) hD hk
    refine lv_astore (lv' := [(4, .ref q), (0, .ref (ad 0 0)), (1, .int (zi v)), (2, .int (zi n)), (3, .ref ao)]) hx hb dL_saw_13 hl (by decide) rfl (fun ls hl => ?_)
    refine k_iconst hC dL_saw_15 ?_
    have hW := gh (u := 31) (i := 0) (j := 0) (v := 1) (fun _ _ => rfl) hW
    exact w_ret hX hW hO hD hS (Nat.le_refl _) (Nat.le_refl _) dL_saw_16
set_option maxHeartbeats 2000000 in
set_option maxRecDepth 100000 in
theorem w_meanSeen {l : Launch} {Dg : va_G} {cA : Nat → ClassId} {cL cD : ClassId} {ad : Nat → Int → Nat} {oc : Nat → Nat} {ao aD : Nat} (hI : WI ccnt ad) (hWN : WN ad ao aD) (hfl : l.stackTraces = false) {N M : Int} (σ : St) (hv : Inv N M σ) (hN : N ≤ 1000000) (hM : 0 ≤ M ∧ M ≤ 1000000) (o : Int64) (d9 : UInt64) : GW l yL_meanSeen wsL_meanSeen ({ frames := 7, cells := 1, slots := 6, locals := 114 } : Room) Dg cA cL cD ad oc ao aD (cE cA ad σ) o d9 [.ref (ad 0 0), .ref aD] (cd_meanSeen σ) (cE cA ad (stp (cd_meanSeen σ) σ σ)) o (bxd (cd_meanSeen σ) (dmB (sumN σ (100 * σ 28 0 0).toNat) (σ 28 0 0)) d9) := by
  have hA := hv.A
  unfold IvA at hA
  by_cases c0 : 0 < σ 28 0 0
  · have e : cd_meanSeen σ = 0 := by unfold cd_meanSeen; rw [if_pos c0]
    rw [e, stp_0, bxd_0]
    intro sz
    refine w_ent (cc := cL_meanSeen) (maxL := 3) (ret := (some .int)) (hh := [(0, 7, 10, 99)]) (by decide) rfl hI (Nat.le_of_ble_eq_true rfl) ?_
    intro pgm env s₀ m₀ bel mth cod hX htab hK2 hNc hW hO hD hS hsz ls hl
    subst hsz
    have hC := hX.1
    have hx := hC.1
    have hb := hC.2.1
    have hts := hC.2.2.2.1
    have hl : lv_has ls 3 [(0, .ref (ad 0 0)), (1, .ref aD)] := hl
    refine lv_aload_n hx hb dL_meanSeen_0 rfl (lv_at hl 1 rfl) ?_
    refine k_iconst hC dL_meanSeen_1 ?_
    refine lv_aload_n hx hb dL_meanSeen_2 rfl (lv_at hl 0 rfl) ?_
    refine k_callD (As := []) (rest := [.int (zi 0), .ref aD]) hX hl.1 (m_meanSeen hI σ hv (by omega) (by omega)) (cwV 0 hts gL_meanSeen_X7_meanSeen rfl rfl rfl (by decide +kernel) ⟨Nat.le_of_ble_eq_true rfl, Nat.le_of_ble_eq_true rfl⟩) (rc_KR hC hW) hW hS ⟨Nat.zero_le _, Nat.zero_le _⟩ rfl rfl (Nat.le_of_ble_eq_true rfl) dL_meanSeen_3 (fun H locs hW hS hz hk => ?_)
    have hO := wo_kept (fun t i x y => (hWN.2 t i x y).1) hO hk
    have hD := wo_kept (fun t i x y => (hWN.2 t i x y).2) hD hk
    refine w_dast hC hK2 hWN (Or.inr (Or.inl rfl)) hW hO hD hS dL_meanSeen_6 (fun H locs hW hO hD hS => ?_)
    refine lv_goto (tgt := 13) hx hb dL_meanSeen_7 (by decide) ?_
    refine k_iconst hC dL_meanSeen_13 ?_
    exact w_ret hX hW hO hD hS (Nat.zero_le _) (Nat.zero_le _) dL_meanSeen_14
  · have e : cd_meanSeen σ = 1 := by unfold cd_meanSeen; rw [if_neg c0]
    rw [e, stp_1 (by decide), bxd_1 (by decide)]
    intro sz
    refine w_ent (cc := cL_meanSeen) (maxL := 3) (ret := (some .int)) (hh := [(0, 7, 10, 99)]) (by decide) rfl hI (Nat.le_of_ble_eq_true rfl) ?_
    intro pgm env s₀ m₀ bel mth cod hX htab hK2 hNc hW hO hD hS hsz ls hl
    subst hsz
    have hC := hX.1
    have hx := hC.1
    have hb := hC.2.1
    have hts := hC.2.2.2.1
    have hl : lv_has ls 3 [(0, .ref (ad 0 0)), (1, .ref aD)] := hl
    refine lv_aload_n hx hb dL_meanSeen_0 rfl (lv_at hl 1 rfl) ?_
    refine k_iconst hC dL_meanSeen_1 ?_
    refine lv_aload_n hx hb dL_meanSeen_2 rfl (lv_at hl 0 rfl) ?_
    have hl_99 := hts (.classLink RL 99 "java/lang/ArithmeticException") (by decide +kernel)
    refine w_caught (rest := [.int (zi 0), .ref aD]) (As := []) (name := "java/lang/ArithmeticException") [] ⟨0, 7, 10, 99⟩ [] (tgt := 10) hX htab (fun _ h => absurd h List.not_mem_nil) (by decide) (by decide) hl_99 (by decide) rfl hl.1 (m_meanSeen_x hI hfl σ (by omega)) (cwV 0 hts gL_meanSeen_X7_meanSeen rfl rfl rfl (by decide +kernel) ⟨Nat.le_of_ble_eq_true rfl, Nat.le_of_ble_eq_true rfl⟩) (rc_KR hC hW) hW hS ⟨Nat.le_of_ble_eq_true rfl, Nat.le_of_ble_eq_true rfl⟩ rfl rfl (Nat.le_of_ble_eq_true rfl) dL_meanSeen_3 (fun H locs q hW hS hz hk => ?_)
    have hO := wo_kept (fun t i x y => (hWN.2 t i x y).1) hO hk
    have hD := wo_kept (fun t i x y => (hWN.2 t i x y).2) hD hk
    refine lv_astore_n (lv' := [(2, .ref q), (0, .ref (ad 0 0)), (1, .ref aD)]) hx hb dL_meanSeen_10 rfl hl (by decide) rfl (fun ls hl => ?_)
    refine k_iconst hC dL_meanSeen_11 ?_
    have hW := gh (u := 31) (i := 0) (j := 0) (v := 1) (fun _ _ => rfl) hW
    exact w_ret hX hW hO hD hS (Nat.le_refl _) (Nat.le_refl _) dL_meanSeen_12
end M13B
