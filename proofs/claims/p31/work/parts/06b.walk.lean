section M2
set_option maxHeartbeats 4000000 in
set_option maxRecDepth 100000 in
theorem m_checkList {l : Launch} {Dg : va_G} {cA : Nat → ClassId} {ad : Nat → Int → Nat} {oc : Nat → Nat} (hI : WI ccnt ad) (σ : St) (x : Int) (h1 : 0 ≤ x ∧ x < σ 26 0 0) (h2 : σ 26 0 0 ≤ 8) : GV l yX7_checkList wsX7_checkList ({ frames := 6, cells := 0, slots := 0, locals := 90 } : Room) Dg cA ccnt ad oc (cE cA ad σ) [.ref (ad 0 0), .int (zi x)] (cE cA ad σ) := by
  intro sz
  refine g_ent (cc := cX7_checkList) (maxL := 2) (ret := none) (by decide) rfl hI (Nat.le_of_ble_eq_true rfl) ?_
  intro pgm env s₀ m₀ bel mth cod hX hW hS hsz ls hl
  subst hsz
  have hC := hX.1
  have hx := hC.1
  have hb := hC.2.1
  have hts := hC.2.2.2.1
  have hl : lv_has ls 2 [(0, .ref (ad 0 0)), (1, .int (zi x))] := hl
  have hin_X7 : ∀ w ∈ wsX70, w ∈ wsX7_checkList := by decide +kernel
  have hl_44 := hts (.fieldLink RX7 44 "KioskReel" "reelCount" "I") (by decide +kernel)
  refine lv_iload_n hx hb dX7_checkList_0 rfl (lv_at hl 1 rfl) ?_
  refine k_if_lt (tgt := 12) hC dX7_checkList_1 (by decide) (by omega) (fun c1 => absurd c1 (by omega)) (fun c1 => ?_)
  refine lv_iload_n hx hb dX7_checkList_4 rfl (lv_at hl 1 rfl) ?_
  refine lv_aload_n hx hb dX7_checkList_5 rfl (lv_at hl 0 rfl) ?_
  refine cg_KR_reelCount hC hW hin_X7 hl_44 (v := σ 26 0 0) rfl dX7_checkList_6 ?_
  refine k_icmp_lt (tgt := 23) hC dX7_checkList_9 (by decide) (by omega) (fun c2 => ?_) (fun c2 => absurd c2 (by omega))
  exact k_vret hX hW hS dX7_checkList_23
set_option maxHeartbeats 4000000 in
set_option maxRecDepth 100000 in
theorem m_checkList_x {l : Launch} {Dg : va_G} {cA : Nat → ClassId} {ad : Nat → Int → Nat} {oc : Nat → Nat} (hI : WI ccnt ad) (hfl : l.stackTraces = false) (σ : St) (x : Int) (h1 : ¬ (0 ≤ x ∧ x < σ 26 0 0)) (h2 : 0 ≤ σ 26 0 0 ∧ σ 26 0 0 ≤ 8) (hxr : -2147483648 ≤ x ∧ x < 2147483648) : GX l yX7_checkList wsX7_checkList ({ frames := 6, cells := 1, slots := 6, locals := 90 } : Room) Dg cA ccnt ad oc (cE cA ad σ) [.ref (ad 0 0), .int (zi x)] "java/lang/IndexOutOfBoundsException" := by
  intro sz
  refine gx_ent (cc := cX7_checkList) (maxL := 2) (ret := none) (by decide) rfl hI (Nat.le_of_ble_eq_true rfl) ?_
  intro pgm env s₀ m₀ bel mth cod hX hno hW hS hsz ls hl
  subst hsz
  have hC := hX.1
  have hx := hC.1
  have hb := hC.2.1
  have hts := hC.2.2.2.1
  have hl : lv_has ls 2 [(0, .ref (ad 0 0)), (1, .int (zi x))] := hl
  have hin_X7 : ∀ w ∈ wsX70, w ∈ wsX7_checkList := by decide +kernel
  have hl_44 := hts (.fieldLink RX7 44 "KioskReel" "reelCount" "I") (by decide +kernel)
  refine lv_iload_n hx hb dX7_checkList_0 rfl (lv_at hl 1 rfl) ?_
  refine k_if_lt (tgt := 12) hC dX7_checkList_1 (by decide) (by omega) (fun c1 => ?_) (fun c1 => ?_)
  · exact k_throwW (rest := []) (text := "no such list") hX rfl hno hl.1 hfl (by decide +kernel) (by decide +kernel) (by decide +kernel) (by decide +kernel) (by decide +kernel) (by decide +kernel) (by decide +kernel) hW hS dX7_checkList_12 dX7_checkList_15 dX7_checkList_16 dX7_checkList_19 dX7_checkList_22 ⟨Nat.le_of_ble_eq_true rfl, Nat.le_of_ble_eq_true rfl, Nat.le_of_ble_eq_true rfl, Nat.le_of_ble_eq_true rfl⟩
  · refine lv_iload_n hx hb dX7_checkList_4 rfl (lv_at hl 1 rfl) ?_
    refine lv_aload_n hx hb dX7_checkList_5 rfl (lv_at hl 0 rfl) ?_
    refine cg_KR_reelCount hC hW hin_X7 hl_44 (v := σ 26 0 0) rfl dX7_checkList_6 ?_
    refine k_icmp_lt (tgt := 23) hC dX7_checkList_9 (by decide) (by omega) (fun c2 => absurd c2 (by omega)) (fun c2 => ?_)
    exact k_throwW (rest := []) (text := "no such list") hX rfl hno hl.1 hfl (by decide +kernel) (by decide +kernel) (by decide +kernel) (by decide +kernel) (by decide +kernel) (by decide +kernel) (by decide +kernel) hW hS dX7_checkList_12 dX7_checkList_15 dX7_checkList_16 dX7_checkList_19 dX7_checkList_22 ⟨Nat.le_of_ble_eq_true rfl, Nat.le_of_ble_eq_true rfl, Nat.le_of_ble_eq_true rfl, Nat.le_of_ble_eq_true rfl⟩
set_option maxHeartbeats 4000000 in
set_option maxRecDepth 100000 in
theorem m_checkKiosk {l : Launch} {Dg : va_G} {cA : Nat → ClassId} {ad : Nat → Int → Nat} {oc : Nat → Nat} (hI : WI ccnt ad) (σ : St) (x : Int) (h1 : 0 ≤ x ∧ x < σ 27 0 0) (h2 : σ 27 0 0 ≤ 6) : GV l yX7_checkKiosk wsX7_checkKiosk ({ frames := 6, cells := 0, slots := 0, locals := 90 } : Room) Dg cA ccnt ad oc (cE cA ad σ) [.ref (ad 0 0), .int (zi x)] (cE cA ad σ) := by
  intro sz
  refine g_ent (cc := cX7_checkKiosk) (maxL := 2) (ret := none) (by decide) rfl hI (Nat.le_of_ble_eq_true rfl) ?_
  intro pgm env s₀ m₀ bel mth cod hX hW hS hsz ls hl
  subst hsz
  have hC := hX.1
  have hx := hC.1
  have hb := hC.2.1
  have hts := hC.2.2.2.1
  have hl : lv_has ls 2 [(0, .ref (ad 0 0)), (1, .int (zi x))] := hl
  have hin_X7 : ∀ w ∈ wsX70, w ∈ wsX7_checkKiosk := by decide +kernel
  have hl_99 := hts (.fieldLink RX7 99 "KioskReel" "kioskCount" "I") (by decide +kernel)
  refine lv_iload_n hx hb dX7_checkKiosk_0 rfl (lv_at hl 1 rfl) ?_
  refine k_if_lt (tgt := 12) hC dX7_checkKiosk_1 (by decide) (by omega) (fun c1 => absurd c1 (by omega)) (fun c1 => ?_)
  refine lv_iload_n hx hb dX7_checkKiosk_4 rfl (lv_at hl 1 rfl) ?_
  refine lv_aload_n hx hb dX7_checkKiosk_5 rfl (lv_at hl 0 rfl) ?_
  refine cg_KR_kioskCount hC hW hin_X7 hl_99 (v := σ 27 0 0) rfl dX7_checkKiosk_6 ?_
  refine k_icmp_lt (tgt := 23) hC dX7_checkKiosk_9 (by decide) (by omega) (fun c2 => ?_) (fun c2 => absurd c2 (by omega))
  exact k_vret hX hW hS dX7_checkKiosk_23
set_option maxHeartbeats 4000000 in
set_option maxRecDepth 100000 in
theorem m_checkKiosk_x {l : Launch} {Dg : va_G} {cA : Nat → ClassId} {ad : Nat → Int → Nat} {oc : Nat → Nat} (hI : WI ccnt ad) (hfl : l.stackTraces = false) (σ : St) (x : Int) (h1 : ¬ (0 ≤ x ∧ x < σ 27 0 0)) (h2 : 0 ≤ σ 27 0 0 ∧ σ 27 0 0 ≤ 6) (hxr : -2147483648 ≤ x ∧ x < 2147483648) : GX l yX7_checkKiosk wsX7_checkKiosk ({ frames := 6, cells := 1, slots := 6, locals := 90 } : Room) Dg cA ccnt ad oc (cE cA ad σ) [.ref (ad 0 0), .int (zi x)] "java/lang/IndexOutOfBoundsException" := by
  intro sz
  refine gx_ent (cc := cX7_checkKiosk) (maxL := 2) (ret := none) (by decide) rfl hI (Nat.le_of_ble_eq_true rfl) ?_
  intro pgm env s₀ m₀ bel mth cod hX hno hW hS hsz ls hl
  subst hsz
  have hC := hX.1
  have hx := hC.1
  have hb := hC.2.1
  have hts := hC.2.2.2.1
  have hl : lv_has ls 2 [(0, .ref (ad 0 0)), (1, .int (zi x))] := hl
  have hin_X7 : ∀ w ∈ wsX70, w ∈ wsX7_checkKiosk := by decide +kernel
  have hl_99 := hts (.fieldLink RX7 99 "KioskReel" "kioskCount" "I") (by decide +kernel)
  refine lv_iload_n hx hb dX7_checkKiosk_0 rfl (lv_at hl 1 rfl) ?_
  refine k_if_lt (tgt := 12) hC dX7_checkKiosk_1 (by decide) (by omega) (fun c1 => ?_) (fun c1 => ?_)
  · exact k_throwW (rest := []) (text := "no such kiosk") hX rfl hno hl.1 hfl (by decide +kernel) (by decide +kernel) (by decide +kernel) (by decide +kernel) (by decide +kernel) (by decide +kernel) (by decide +kernel) hW hS dX7_checkKiosk_12 dX7_checkKiosk_15 dX7_checkKiosk_16 dX7_checkKiosk_19 dX7_checkKiosk_22 ⟨Nat.le_of_ble_eq_true rfl, Nat.le_of_ble_eq_true rfl, Nat.le_of_ble_eq_true rfl, Nat.le_of_ble_eq_true rfl⟩
  · refine lv_iload_n hx hb dX7_checkKiosk_4 rfl (lv_at hl 1 rfl) ?_
    refine lv_aload_n hx hb dX7_checkKiosk_5 rfl (lv_at hl 0 rfl) ?_
    refine cg_KR_kioskCount hC hW hin_X7 hl_99 (v := σ 27 0 0) rfl dX7_checkKiosk_6 ?_
    refine k_icmp_lt (tgt := 23) hC dX7_checkKiosk_9 (by decide) (by omega) (fun c2 => absurd c2 (by omega)) (fun c2 => ?_)
    exact k_throwW (rest := []) (text := "no such kiosk") hX rfl hno hl.1 hfl (by decide +kernel) (by decide +kernel) (by decide +kernel) (by decide +kernel) (by decide +kernel) (by decide +kernel) (by decide +kernel) hW hS dX7_checkKiosk_12 dX7_checkKiosk_15 dX7_checkKiosk_16 dX7_checkKiosk_19 dX7_checkKiosk_22 ⟨Nat.le_of_ble_eq_true rfl, Nat.le_of_ble_eq_true rfl, Nat.le_of_ble_eq_true rfl, Nat.le_of_ble_eq_true rfl⟩
set_option maxHeartbeats 4000000 in
set_option maxRecDepth 100000 in
theorem m_leastNumber {l : Launch} {Dg : va_G} {cA : Nat → ClassId} {ad : Nat → Int → Nat} {oc : Nat → Nat} (hI : WI ccnt ad) (σ : St) (k : Int) (hk : 0 ≤ k ∧ k < 65536) : GI l yX7_leastNumber wsX7_leastNumber ({ frames := 0, cells := 0, slots := 0, locals := 0 } : Room) Dg cA ccnt ad oc (cE cA ad σ) [.int (zi k)] (leastN k) (cE cA ad σ) := by
  intro sz
  refine g_ent (cc := cX7_leastNumber) (maxL := 1) (ret := (some .int)) (by decide) rfl hI (Nat.le_of_ble_eq_true rfl) ?_
  intro pgm env s₀ m₀ bel mth cod hX hW hS hsz ls hl
  subst hsz
  have hC := hX.1
  have hx := hC.1
  have hb := hC.2.1
  have hts := hC.2.2.2.1
  have hl : lv_has ls 1 [(0, .int (zi k))] := hl
  refine lv_iload_n hx hb dX7_leastNumber_0 rfl (lv_at hl 0 rfl) ?_
  refine k_bipush hC dX7_leastNumber_1 (by decide) ?_
  refine k_icmp_ne (tgt := 10) hC dX7_leastNumber_3 (by decide) (by omega) (fun c1 => ?_) (fun c1 => ?_)
  · refine k_iconst hC dX7_leastNumber_10 ?_
    exact k_iret hX (by unfold leastN; omega) hW hS dX7_leastNumber_11
  · refine k_iconst hC dX7_leastNumber_6 ?_
    refine lv_goto (tgt := 11) hx hb dX7_leastNumber_7 (by decide) ?_
    exact k_iret hX (by unfold leastN; omega) hW hS dX7_leastNumber_11
set_option maxHeartbeats 4000000 in
set_option maxRecDepth 100000 in
theorem m_mostNumber {l : Launch} {Dg : va_G} {cA : Nat → ClassId} {ad : Nat → Int → Nat} {oc : Nat → Nat} (hI : WI ccnt ad) (σ : St) (k : Int) (hk : 0 ≤ k ∧ k < 65536) : GI l yX7_mostNumber wsX7_mostNumber ({ frames := 0, cells := 0, slots := 0, locals := 0 } : Room) Dg cA ccnt ad oc (cE cA ad σ) [.int (zi k)] (mostN k) (cE cA ad σ) := by
  intro sz
  refine g_ent (cc := cX7_mostNumber) (maxL := 1) (ret := (some .int)) (by decide) rfl hI (Nat.le_of_ble_eq_true rfl) ?_
  intro pgm env s₀ m₀ bel mth cod hX hW hS hsz ls hl
  subst hsz
  have hC := hX.1
  have hx := hC.1
  have hb := hC.2.1
  have hts := hC.2.2.2.1
  have hl : lv_has ls 1 [(0, .int (zi k))] := hl
  refine lv_iload_n hx hb dX7_mostNumber_0 rfl (lv_at hl 0 rfl) ?_
  rcases Classical.em (k = 99) with hsw | hsw
  · refine k_tabIn (tgt := 111) (a' := 99) hC dX7_mostNumber_1 hsw (by decide) (by decide) (by decide) rfl (by decide) ?_
    refine k_bipush hC dX7_mostNumber_111 (by decide) ?_
    exact k_iret hX (by unfold mostN; omega) hW hS dX7_mostNumber_113
  · skip
    rcases Classical.em (k = 100) with hsw | hsw
    · refine k_tabIn (tgt := 106) (a' := 100) hC dX7_mostNumber_1 hsw (by decide) (by decide) (by decide) rfl (by decide) ?_
      refine k_iconst hC dX7_mostNumber_106 ?_
      exact k_iret hX (by unfold mostN; omega) hW hS dX7_mostNumber_107
    · skip
      rcases Classical.em (k = 101) with hsw | hsw
      · refine k_tabIn (tgt := 117) (a' := 101) hC dX7_mostNumber_1 hsw (by decide) (by decide) (by decide) rfl (by decide) ?_
        refine k_iconst hC dX7_mostNumber_117 ?_
        exact k_iret hX (by unfold mostN; omega) hW hS dX7_mostNumber_118
      · skip
        rcases Classical.em (k = 102) with hsw | hsw
        · refine k_tabIn (tgt := 106) (a' := 102) hC dX7_mostNumber_1 hsw (by decide) (by decide) (by decide) rfl (by decide) ?_
          refine k_iconst hC dX7_mostNumber_106 ?_
          exact k_iret hX (by unfold mostN; omega) hW hS dX7_mostNumber_107
        · skip
          rcases Classical.em (k = 103) with hsw | hsw
          · refine k_tabIn (tgt := 108) (a' := 103) hC dX7_mostNumber_1 hsw (by decide) (by decide) (by decide) rfl (by decide) ?_
            refine k_bipush hC dX7_mostNumber_108 (by decide) ?_
            exact k_iret hX (by unfold mostN; omega) hW hS dX7_mostNumber_110
          · skip
            rcases Classical.em (k = 104) with hsw | hsw
            · refine k_tabIn (tgt := 117) (a' := 104) hC dX7_mostNumber_1 hsw (by decide) (by decide) (by decide) rfl (by decide) ?_
              refine k_iconst hC dX7_mostNumber_117 ?_
              exact k_iret hX (by unfold mostN; omega) hW hS dX7_mostNumber_118
            · skip
              rcases Classical.em (k = 105) with hsw | hsw
              · refine k_tabIn (tgt := 117) (a' := 105) hC dX7_mostNumber_1 hsw (by decide) (by decide) (by decide) rfl (by decide) ?_
                refine k_iconst hC dX7_mostNumber_117 ?_
                exact k_iret hX (by unfold mostN; omega) hW hS dX7_mostNumber_118
              · skip
                rcases Classical.em (k = 106) with hsw | hsw
                · refine k_tabIn (tgt := 117) (a' := 106) hC dX7_mostNumber_1 hsw (by decide) (by decide) (by decide) rfl (by decide) ?_
                  refine k_iconst hC dX7_mostNumber_117 ?_
                  exact k_iret hX (by unfold mostN; omega) hW hS dX7_mostNumber_118
                · skip
                  rcases Classical.em (k = 107) with hsw | hsw
                  · refine k_tabIn (tgt := 117) (a' := 107) hC dX7_mostNumber_1 hsw (by decide) (by decide) (by decide) rfl (by decide) ?_
                    refine k_iconst hC dX7_mostNumber_117 ?_
                    exact k_iret hX (by unfold mostN; omega) hW hS dX7_mostNumber_118
                  · skip
                    rcases Classical.em (k = 108) with hsw | hsw
                    · refine k_tabIn (tgt := 108) (a' := 108) hC dX7_mostNumber_1 hsw (by decide) (by decide) (by decide) rfl (by decide) ?_
                      refine k_bipush hC dX7_mostNumber_108 (by decide) ?_
                      exact k_iret hX (by unfold mostN; omega) hW hS dX7_mostNumber_110
                    · skip
                      rcases Classical.em (k = 109) with hsw | hsw
                      · refine k_tabIn (tgt := 117) (a' := 109) hC dX7_mostNumber_1 hsw (by decide) (by decide) (by decide) rfl (by decide) ?_
                        refine k_iconst hC dX7_mostNumber_117 ?_
                        exact k_iret hX (by unfold mostN; omega) hW hS dX7_mostNumber_118
                      · skip
                        rcases Classical.em (k = 110) with hsw | hsw
                        · refine k_tabIn (tgt := 117) (a' := 110) hC dX7_mostNumber_1 hsw (by decide) (by decide) (by decide) rfl (by decide) ?_
                          refine k_iconst hC dX7_mostNumber_117 ?_
                          exact k_iret hX (by unfold mostN; omega) hW hS dX7_mostNumber_118
                        · skip
                          rcases Classical.em (k = 111) with hsw | hsw
                          · refine k_tabIn (tgt := 117) (a' := 111) hC dX7_mostNumber_1 hsw (by decide) (by decide) (by decide) rfl (by decide) ?_
                            refine k_iconst hC dX7_mostNumber_117 ?_
                            exact k_iret hX (by unfold mostN; omega) hW hS dX7_mostNumber_118
                          · skip
                            rcases Classical.em (k = 112) with hsw | hsw
                            · refine k_tabIn (tgt := 114) (a' := 112) hC dX7_mostNumber_1 hsw (by decide) (by decide) (by decide) rfl (by decide) ?_
                              refine k_bipush hC dX7_mostNumber_114 (by decide) ?_
                              exact k_iret hX (by unfold mostN; omega) hW hS dX7_mostNumber_116
                            · skip
                              rcases Classical.em (k = 113) with hsw | hsw
                              · refine k_tabIn (tgt := 117) (a' := 113) hC dX7_mostNumber_1 hsw (by decide) (by decide) (by decide) rfl (by decide) ?_
                                refine k_iconst hC dX7_mostNumber_117 ?_
                                exact k_iret hX (by unfold mostN; omega) hW hS dX7_mostNumber_118
                              · skip
                                rcases Classical.em (k = 114) with hsw | hsw
                                · refine k_tabIn (tgt := 117) (a' := 114) hC dX7_mostNumber_1 hsw (by decide) (by decide) (by decide) rfl (by decide) ?_
                                  refine k_iconst hC dX7_mostNumber_117 ?_
                                  exact k_iret hX (by unfold mostN; omega) hW hS dX7_mostNumber_118
                                · skip
                                  rcases Classical.em (k = 115) with hsw | hsw
                                  · refine k_tabIn (tgt := 100) (a' := 115) hC dX7_mostNumber_1 hsw (by decide) (by decide) (by decide) rfl (by decide) ?_
                                    refine k_bipush hC dX7_mostNumber_100 (by decide) ?_
                                    exact k_iret hX (by unfold mostN; omega) hW hS dX7_mostNumber_102
                                  · skip
                                    rcases Classical.em (k = 116) with hsw | hsw
                                    · refine k_tabIn (tgt := 117) (a' := 116) hC dX7_mostNumber_1 hsw (by decide) (by decide) (by decide) rfl (by decide) ?_
                                      refine k_iconst hC dX7_mostNumber_117 ?_
                                      exact k_iret hX (by unfold mostN; omega) hW hS dX7_mostNumber_118
                                    · skip
                                      rcases Classical.em (k = 117) with hsw | hsw
                                      · refine k_tabIn (tgt := 117) (a' := 117) hC dX7_mostNumber_1 hsw (by decide) (by decide) (by decide) rfl (by decide) ?_
                                        refine k_iconst hC dX7_mostNumber_117 ?_
                                        exact k_iret hX (by unfold mostN; omega) hW hS dX7_mostNumber_118
                                      · skip
                                        rcases Classical.em (k = 118) with hsw | hsw
                                        · refine k_tabIn (tgt := 108) (a' := 118) hC dX7_mostNumber_1 hsw (by decide) (by decide) (by decide) rfl (by decide) ?_
                                          refine k_bipush hC dX7_mostNumber_108 (by decide) ?_
                                          exact k_iret hX (by unfold mostN; omega) hW hS dX7_mostNumber_110
                                        · skip
                                          rcases Classical.em (k = 119) with hsw | hsw
                                          · refine k_tabIn (tgt := 103) (a' := 119) hC dX7_mostNumber_1 hsw (by decide) (by decide) (by decide) rfl (by decide) ?_
                                            refine k_bipush hC dX7_mostNumber_103 (by decide) ?_
                                            exact k_iret hX (by unfold mostN; omega) hW hS dX7_mostNumber_105
                                          · skip
                                            refine k_tabOut (tgt := 117) hC dX7_mostNumber_1 (by omega) (by omega) (by decide) ?_
                                            refine k_iconst hC dX7_mostNumber_117 ?_
                                            exact k_iret hX (by unfold mostN; omega) hW hS dX7_mostNumber_118
set_option maxHeartbeats 4000000 in
set_option maxRecDepth 100000 in
theorem m_checkKind {l : Launch} {Dg : va_G} {cA : Nat → ClassId} {ad : Nat → Int → Nat} {oc : Nat → Nat} (hI : WI ccnt ad) (σ : St) (k : Int) (hk : 0 ≤ k ∧ k < 65536) (h1 : mostN k ≠ -1) : GV l yX7_checkKind wsX7_checkKind ({ frames := 6, cells := 0, slots := 0, locals := 90 } : Room) Dg cA ccnt ad oc (cE cA ad σ) [.int (zi k)] (cE cA ad σ) := by
  intro sz
  refine g_ent (cc := cX7_checkKind) (maxL := 1) (ret := none) (by decide) rfl hI (Nat.le_of_ble_eq_true rfl) ?_
  intro pgm env s₀ m₀ bel mth cod hX hW hS hsz ls hl
  subst hsz
  have hC := hX.1
  have hx := hC.1
  have hb := hC.2.1
  have hts := hC.2.2.2.1
  have hl : lv_has ls 1 [(0, .int (zi k))] := hl
  have hm := mostN_rng k
  refine lv_iload_n hx hb dX7_checkKind_0 rfl (lv_at hl 0 rfl) ?_
  refine k_callSI (As := [.int (zi k)]) (rest := []) hX hl.1 (m_mostNumber hI σ k (by omega)) (cwS 1 hts gX7_checkKind_X7_mostNumber rfl rfl rfl (by decide +kernel) ⟨Nat.le_of_ble_eq_true rfl, Nat.le_of_ble_eq_true rfl⟩) hW hS ⟨Nat.zero_le _, Nat.zero_le _⟩ rfl rfl (Nat.le_of_ble_eq_true rfl) dX7_checkKind_1 (fun H locs hW hS _ _ => ?_)
  refine k_iconst hC dX7_checkKind_4 ?_
  refine k_icmp_ne (tgt := 19) hC dX7_checkKind_5 (by decide) (by omega) (fun c1 => ?_) (fun c1 => absurd c1 (by omega))
  exact k_vret hX hW hS dX7_checkKind_19
set_option maxHeartbeats 4000000 in
set_option maxRecDepth 100000 in
theorem m_checkKind_x {l : Launch} {Dg : va_G} {cA : Nat → ClassId} {ad : Nat → Int → Nat} {oc : Nat → Nat} (hI : WI ccnt ad) (hfl : l.stackTraces = false) (σ : St) (k : Int) (hk : 0 ≤ k ∧ k < 65536) (h1 : mostN k = -1) : GX l yX7_checkKind wsX7_checkKind ({ frames := 6, cells := 1, slots := 6, locals := 90 } : Room) Dg cA ccnt ad oc (cE cA ad σ) [.int (zi k)] "java/lang/IllegalArgumentException" := by
  intro sz
  refine gx_ent (cc := cX7_checkKind) (maxL := 1) (ret := none) (by decide) rfl hI (Nat.le_of_ble_eq_true rfl) ?_
  intro pgm env s₀ m₀ bel mth cod hX hno hW hS hsz ls hl
  subst hsz
  have hC := hX.1
  have hx := hC.1
  have hb := hC.2.1
  have hts := hC.2.2.2.1
  have hl : lv_has ls 1 [(0, .int (zi k))] := hl
  have hm := mostN_rng k
  refine lv_iload_n hx hb dX7_checkKind_0 rfl (lv_at hl 0 rfl) ?_
  refine k_callSI (As := [.int (zi k)]) (rest := []) hX hl.1 (m_mostNumber hI σ k (by omega)) (cwS 1 hts gX7_checkKind_X7_mostNumber rfl rfl rfl (by decide +kernel) ⟨Nat.le_of_ble_eq_true rfl, Nat.le_of_ble_eq_true rfl⟩) hW hS ⟨Nat.zero_le _, Nat.zero_le _⟩ rfl rfl (Nat.le_of_ble_eq_true rfl) dX7_checkKind_1 (fun H locs hW hS _ _ => ?_)
  refine k_iconst hC dX7_checkKind_4 ?_
  refine k_icmp_ne (tgt := 19) hC dX7_checkKind_5 (by decide) (by omega) (fun c1 => absurd c1 (by omega)) (fun c1 => ?_)
  exact k_throwW (rest := []) (text := "no such kind") hX rfl hno hl.1 hfl (by decide +kernel) (by decide +kernel) (by decide +kernel) (by decide +kernel) (by decide +kernel) (by decide +kernel) (by decide +kernel) hW hS dX7_checkKind_8 dX7_checkKind_11 dX7_checkKind_12 dX7_checkKind_15 dX7_checkKind_18 ⟨Nat.le_of_ble_eq_true rfl, Nat.le_of_ble_eq_true rfl, Nat.le_of_ble_eq_true rfl, Nat.le_of_ble_eq_true rfl⟩
set_option maxHeartbeats 4000000 in
set_option maxRecDepth 100000 in
theorem m_checkPlayer {l : Launch} {Dg : va_G} {cA : Nat → ClassId} {ad : Nat → Int → Nat} {oc : Nat → Nat} (hI : WI ccnt ad) {N M : Int} (σ : St) (x : Int) (hv : Inv N M σ) (h1 : 0 ≤ x ∧ x < σ 27 0 0) (h2 : σ 6 x 0 = 1) : GV l yX7_checkPlayer wsX7_checkPlayer ({ frames := 7, cells := 0, slots := 0, locals := 111 } : Room) Dg cA ccnt ad oc (cE cA ad σ) [.ref (ad 0 0), .int (zi x)] (cE cA ad σ) := by
  intro sz
  refine g_ent (cc := cX7_checkPlayer) (maxL := 2) (ret := none) (by decide) rfl hI (Nat.le_of_ble_eq_true rfl) ?_
  intro pgm env s₀ m₀ bel mth cod hX hW hS hsz ls hl
  subst hsz
  have hC := hX.1
  have hx := hC.1
  have hb := hC.2.1
  have hts := hC.2.2.2.1
  have hl : lv_has ls 2 [(0, .ref (ad 0 0)), (1, .int (zi x))] := hl
  have hin_X3 : ∀ w ∈ wsX30, w ∈ wsX7_checkPlayer := by decide +kernel
  have hin_X7 : ∀ w ∈ wsX70, w ∈ wsX7_checkPlayer := by decide +kernel
  have hl_23 := hts (.fieldLink RX7 23 "KioskReel" "players" "[LKioskReel$Player;") (by decide +kernel)
  have hl_107 := hts (.fieldLink RX7 107 "KioskReel$Player" "started" "Z") (by decide +kernel)
  have hA := hv.A
  unfold IvA at hA
  refine lv_aload_n hx hb dX7_checkPlayer_0 rfl (lv_at hl 0 rfl) ?_
  refine lv_iload_n hx hb dX7_checkPlayer_1 rfl (lv_at hl 1 rfl) ?_
  refine k_callV (As := [.int (zi x)]) (rest := []) hX hl.1 (m_checkKiosk hI σ x (by omega) (by omega)) (cwV 1 hts gX7_checkPlayer_X7_checkKiosk rfl rfl rfl (by decide +kernel) ⟨Nat.le_of_ble_eq_true rfl, Nat.le_of_ble_eq_true rfl⟩) (rc_KR hC hW) hW hS ⟨Nat.zero_le _, Nat.zero_le _⟩ rfl rfl (Nat.le_of_ble_eq_true rfl) dX7_checkPlayer_2 (fun H locs hW hS _ _ => ?_)
  refine lv_aload_n hx hb dX7_checkPlayer_5 rfl (lv_at hl 0 rfl) ?_
  refine cg_KR_players hC hW hin_X7 hl_23 dX7_checkPlayer_6 ?_
  refine lv_iload_n hx hb dX7_checkPlayer_9 rfl (lv_at hl 1 rfl) ?_
  refine ca_players hC hW (by omega) dX7_checkPlayer_10 ?_
  refine cg_Player_started hC hW hin_X3 hl_107 (by omega) (v := σ 6 x 0) rfl dX7_checkPlayer_11 ?_
  refine k_if_ne (tgt := 28) hC dX7_checkPlayer_14 (by decide) (by omega) (fun c1 => ?_) (fun c1 => absurd c1 (by omega))
  exact k_vret hX hW hS dX7_checkPlayer_28
set_option maxHeartbeats 4000000 in
set_option maxRecDepth 100000 in
theorem m_checkPlayer_x {l : Launch} {Dg : va_G} {cA : Nat → ClassId} {ad : Nat → Int → Nat} {oc : Nat → Nat} (hI : WI ccnt ad) (hfl : l.stackTraces = false) {N M : Int} (σ : St) (x : Int) (hv : Inv N M σ) (h1 : ¬ (0 ≤ x ∧ x < σ 27 0 0)) (hxr : -2147483648 ≤ x ∧ x < 2147483648) : GX l yX7_checkPlayer wsX7_checkPlayer ({ frames := 7, cells := 1, slots := 6, locals := 111 } : Room) Dg cA ccnt ad oc (cE cA ad σ) [.ref (ad 0 0), .int (zi x)] "java/lang/IndexOutOfBoundsException" := by
  intro sz
  refine gx_ent (cc := cX7_checkPlayer) (maxL := 2) (ret := none) (by decide) rfl hI (Nat.le_of_ble_eq_true rfl) ?_
  intro pgm env s₀ m₀ bel mth cod hX hno hW hS hsz ls hl
  subst hsz
  have hC := hX.1
  have hx := hC.1
  have hb := hC.2.1
  have hts := hC.2.2.2.1
  have hl : lv_has ls 2 [(0, .ref (ad 0 0)), (1, .int (zi x))] := hl
  have hA := hv.A
  unfold IvA at hA
  refine lv_aload_n hx hb dX7_checkPlayer_0 rfl (lv_at hl 0 rfl) ?_
  refine lv_iload_n hx hb dX7_checkPlayer_1 rfl (lv_at hl 1 rfl) ?_
  exact k_callX (As := [.int (zi x)]) (rest := []) hX hno hl.1 (m_checkKiosk_x hI hfl σ x h1 (by omega) hxr) (cwV 1 hts gX7_checkPlayer_X7_checkKiosk rfl rfl rfl (by decide +kernel) ⟨Nat.le_of_ble_eq_true rfl, Nat.le_of_ble_eq_true rfl⟩) (rc_KR hC hW) hW hS ⟨Nat.le_of_ble_eq_true rfl, Nat.le_of_ble_eq_true rfl⟩ rfl rfl (Nat.le_of_ble_eq_true rfl) dX7_checkPlayer_2
set_option maxHeartbeats 4000000 in
set_option maxRecDepth 100000 in
theorem m_checkPlayer_n {l : Launch} {Dg : va_G} {cA : Nat → ClassId} {ad : Nat → Int → Nat} {oc : Nat → Nat} (hI : WI ccnt ad) (hfl : l.stackTraces = false) {N M : Int} (σ : St) (x : Int) (hv : Inv N M σ) (h1 : 0 ≤ x ∧ x < σ 27 0 0) (h2 : σ 6 x 0 = 0) : GX l yX7_checkPlayer wsX7_checkPlayer ({ frames := 7, cells := 1, slots := 6, locals := 111 } : Room) Dg cA ccnt ad oc (cE cA ad σ) [.ref (ad 0 0), .int (zi x)] "java/util/NoSuchElementException" := by
  intro sz
  refine gx_ent (cc := cX7_checkPlayer) (maxL := 2) (ret := none) (by decide) rfl hI (Nat.le_of_ble_eq_true rfl) ?_
  intro pgm env s₀ m₀ bel mth cod hX hno hW hS hsz ls hl
  subst hsz
  have hC := hX.1
  have hx := hC.1
  have hb := hC.2.1
  have hts := hC.2.2.2.1
  have hl : lv_has ls 2 [(0, .ref (ad 0 0)), (1, .int (zi x))] := hl
  have hin_X3 : ∀ w ∈ wsX30, w ∈ wsX7_checkPlayer := by decide +kernel
  have hin_X7 : ∀ w ∈ wsX70, w ∈ wsX7_checkPlayer := by decide +kernel
  have hl_23 := hts (.fieldLink RX7 23 "KioskReel" "players" "[LKioskReel$Player;") (by decide +kernel)
  have hl_107 := hts (.fieldLink RX7 107 "KioskReel$Player" "started" "Z") (by decide +kernel)
  have hA := hv.A
  unfold IvA at hA
  refine lv_aload_n hx hb dX7_checkPlayer_0 rfl (lv_at hl 0 rfl) ?_
  refine lv_iload_n hx hb dX7_checkPlayer_1 rfl (lv_at hl 1 rfl) ?_
  refine k_callV (As := [.int (zi x)]) (rest := []) hX hl.1 (m_checkKiosk hI σ x (by omega) (by omega)) (cwV 1 hts gX7_checkPlayer_X7_checkKiosk rfl rfl rfl (by decide +kernel) ⟨Nat.le_of_ble_eq_true rfl, Nat.le_of_ble_eq_true rfl⟩) (rc_KR hC hW) hW hS ⟨Nat.zero_le _, Nat.zero_le _⟩ rfl rfl (Nat.le_of_ble_eq_true rfl) dX7_checkPlayer_2 (fun H locs hW hS _ _ => ?_)
  refine lv_aload_n hx hb dX7_checkPlayer_5 rfl (lv_at hl 0 rfl) ?_
  refine cg_KR_players hC hW hin_X7 hl_23 dX7_checkPlayer_6 ?_
  refine lv_iload_n hx hb dX7_checkPlayer_9 rfl (lv_at hl 1 rfl) ?_
  refine ca_players hC hW (by omega) dX7_checkPlayer_10 ?_
  refine cg_Player_started hC hW hin_X3 hl_107 (by omega) (v := σ 6 x 0) rfl dX7_checkPlayer_11 ?_
  refine k_if_ne (tgt := 28) hC dX7_checkPlayer_14 (by decide) (by omega) (fun c1 => absurd c1 (by omega)) (fun c1 => ?_)
  exact k_throwNW (rest := []) (text := "the kiosk has no player") hX rfl hno hl.1 hfl (by decide +kernel) (by decide +kernel) (by decide +kernel) (by decide +kernel) (by decide +kernel) (by decide +kernel) (by decide +kernel) hW hS dX7_checkPlayer_17 dX7_checkPlayer_20 dX7_checkPlayer_21 dX7_checkPlayer_24 dX7_checkPlayer_27 ⟨Nat.le_of_ble_eq_true rfl, Nat.le_of_ble_eq_true rfl, Nat.le_of_ble_eq_true rfl, Nat.le_of_ble_eq_true rfl⟩
set_option maxHeartbeats 4000000 in
set_option maxRecDepth 100000 in
theorem m_hasVisitor {l : Launch} {Dg : va_G} {cA : Nat → ClassId} {ad : Nat → Int → Nat} {oc : Nat → Nat} (hI : WI ccnt ad) {N M : Int} (σ : St) (k : Int) (hv : Inv N M σ) (hk : -2147483648 ≤ k ∧ k < 2147483648) : GI l yX7_hasVisitor wsX7_hasVisitor ({ frames := 0, cells := 0, slots := 0, locals := 0 } : Room) Dg cA ccnt ad oc (cE cA ad σ) [.ref (ad 0 0), .int (zi k)] (if hasV σ k then 1 else 0) (cE cA ad σ) := by
  intro sz
  refine g_ent (cc := cX7_hasVisitor) (maxL := 3) (ret := (some .boolean)) (by decide) rfl hI (Nat.le_of_ble_eq_true rfl) ?_
  intro pgm env s₀ m₀ bel mth cod hX hW hS hsz ls hl
  subst hsz
  have hC := hX.1
  have hx := hC.1
  have hb := hC.2.1
  have hts := hC.2.2.2.1
  have hl : lv_has ls 3 [(0, .ref (ad 0 0)), (1, .int (zi k))] := hl
  have hin_X6 : ∀ w ∈ wsX60, w ∈ wsX7_hasVisitor := by decide +kernel
  have hin_X7 : ∀ w ∈ wsX70, w ∈ wsX7_hasVisitor := by decide +kernel
  have hl_35 := hts (.fieldLink RX7 35 "KioskReel" "visitors" "[LKioskReel$Visitor;") (by decide +kernel)
  have hl_208 := hts (.fieldLink RX7 208 "KioskReel" "visitorCount" "I") (by decide +kernel)
  have hl_216 := hts (.fieldLink RX7 216 "KioskReel$Visitor" "place" "I") (by decide +kernel)
  have hA := hv.A
  unfold IvA at hA
  refine k_iconst hC dX7_hasVisitor_0 ?_
  refine lv_istore_n (lv' := [(2, .int (zi 0)), (0, .ref (ad 0 0)), (1, .int (zi k))]) hx hb dX7_hasVisitor_1 rfl hl (by decide) rfl (fun ls hl => ?_)
  have loop_2 : ∀ (fuel : Nat) (i : Int), σ 28 0 0 - i < (fuel : Int) → (0 ≤ i) → (i ≤ σ 28 0 0) → (∀ j : Int, 0 ≤ j → j < i → σ 22 j 0 ≠ k) → ∀ (H : Heap) (locs : List Loc), WP Dg ccnt ad (cE cA ad σ) H → va_S (WA ccnt ad s₀.heap.size) s₀.heap H locs → ∀ ls : Array Slot, lv_has ls 3 [(2, .int (zi i)), (0, .ref (ad 0 0)), (1, .int (zi k))] → W pgm l env ({ frames := 0, cells := 0, slots := 0, locals := 0 } : Room) s₀ m₀ ([.ref (ad 0 0), .int (zi k)] : List Value).toArray bel mth cod H locs 0 0 (MQ bel (va_Qi (fun (rr : Int32) (_ : Unit) => rr = zi (if hasV σ k then 1 else 0)) (gB Dg ccnt ad (cE cA ad σ)) (WA ccnt ad s₀.heap.size)) ([.ref (ad 0 0), .int (zi k)] : List Value).toArray s₀ 0 0 (WA ccnt ad s₀.heap.size)) (F0 m₀ 2 ls []) := by
    intro fuel
    induction fuel with
    | zero => intro i hn i1 i2 i3; exact absurd hn (by omega)
    | succ fuel ih_2 =>
      intro i hn i1 i2 i3 H locs hW hS ls hl
      refine lv_iload_n hx hb dX7_hasVisitor_2 rfl (lv_at hl 0 rfl) ?_
      refine lv_aload_n hx hb dX7_hasVisitor_3 rfl (lv_at hl 1 rfl) ?_
      refine cg_KR_visitorCount hC hW hin_X7 hl_208 (v := σ 28 0 0) rfl dX7_hasVisitor_4 ?_
      refine k_icmp_ge (tgt := 31) hC dX7_hasVisitor_7 (by decide) (by omega) (fun c1 => ?_) (fun c1 => ?_)
      · refine k_iconst hC dX7_hasVisitor_31 ?_
        exact k_zret hX (by omega) (by rw [if_neg (fun z => by obtain ⟨j, a, b, c⟩ := (cN_pos _ (by omega)).mp z; exact i3 j a (by omega) (of_decide_eq_true c))]) hW hS dX7_hasVisitor_32
      · refine lv_aload_n hx hb dX7_hasVisitor_10 rfl (lv_at hl 1 rfl) ?_
        refine cg_KR_visitors hC hW hin_X7 hl_35 dX7_hasVisitor_11 ?_
        refine lv_iload_n hx hb dX7_hasVisitor_14 rfl (lv_at hl 0 rfl) ?_
        refine ca_visitors hC hW (by omega) dX7_hasVisitor_15 ?_
        have hV := (hv.V i (by omega) (by omega)).1
        refine cg_Visitor_place hC hW hin_X6 hl_216 (by omega) (v := σ 22 i 0) rfl dX7_hasVisitor_16 ?_
        refine lv_iload_n hx hb dX7_hasVisitor_19 rfl (lv_at hl 2 rfl) ?_
        refine k_icmp_ne (tgt := 25) hC dX7_hasVisitor_20 (by decide) (by omega) (fun c2 => ?_) (fun c2 => ?_)
        · refine k_iinc (a := i) (lv' := [(2, .int (zi (i + 1))), (0, .ref (ad 0 0)), (1, .int (zi k))]) hC dX7_hasVisitor_25 hl (k := 0) rfl (by decide) rfl (fun ls hl => ?_)
          refine lv_goto (tgt := 2) hx hb dX7_hasVisitor_28 (by decide) ?_
          have hl := Eq.mp (congrArg (fun z : Int => lv_has ls 3 [(2, .int (zi z)), (0, .ref (ad 0 0)), (1, .int (zi k))]) (show (i + 1 : Int) = (i + 1) by omega)) hl
          exact ih_2 (i + 1) (by omega) (by omega) (by omega) (fun j a b => if hj : j = i then (by rw [hj]; assumption) else i3 j a (by omega)) _ _ hW hS _ (lv_sub hl [0, 1, 2] rfl)
        · refine k_iconst hC dX7_hasVisitor_23 ?_
          exact k_zret hX (by omega) (by rw [if_pos ((cN_pos _ (by omega)).mpr ⟨i, by omega, by omega, decide_eq_true (by assumption)⟩)]) hW hS dX7_hasVisitor_24
  exact loop_2 (Int.toNat (σ 28 0 0 - 0) + 1) 0 (by omega) (by omega) (by omega) (fun j a b => by omega) _ _ hW hS _ (lv_sub hl [0, 1, 2] rfl)
set_option maxHeartbeats 4000000 in
set_option maxRecDepth 100000 in
theorem m_devicesOf {l : Launch} {Dg : va_G} {cA : Nat → ClassId} {ad : Nat → Int → Nat} {oc : Nat → Nat} (hI : WI ccnt ad) {N M : Int} (σ : St) (p : Int) (hv : Inv N M σ) (hp : 0 ≤ p ∧ p < 6) : GI l yX7_devicesOf wsX7_devicesOf ({ frames := 0, cells := 0, slots := 0, locals := 0 } : Room) Dg cA ccnt ad oc (cE cA ad σ) [.ref (ad 0 0), .int (zi p)] (held σ p) (cE cA ad σ) := by
  intro sz
  refine g_ent (cc := cX7_devicesOf) (maxL := 4) (ret := (some .int)) (by decide) rfl hI (Nat.le_of_ble_eq_true rfl) ?_
  intro pgm env s₀ m₀ bel mth cod hX hW hS hsz ls hl
  subst hsz
  have hC := hX.1
  have hx := hC.1
  have hb := hC.2.1
  have hts := hC.2.2.2.1
  have hl : lv_has ls 4 [(0, .ref (ad 0 0)), (1, .int (zi p))] := hl
  have hin_X0 : ∀ w ∈ wsX00, w ∈ wsX7_devicesOf := by decide +kernel
  have hin_X7 : ∀ w ∈ wsX70, w ∈ wsX7_devicesOf := by decide +kernel
  have hl_29 := hts (.fieldLink RX7 29 "KioskReel" "devices" "[LKioskReel$Device;") (by decide +kernel)
  have hl_131 := hts (.fieldLink RX7 131 "KioskReel$Device" "owner" "I") (by decide +kernel)
  refine k_iconst hC dX7_devicesOf_0 ?_
  refine lv_istore_n (lv' := [(2, .int (zi 0)), (0, .ref (ad 0 0)), (1, .int (zi p))]) hx hb dX7_devicesOf_1 rfl hl (by decide) rfl (fun ls hl => ?_)
  refine k_iconst hC dX7_devicesOf_2 ?_
  refine lv_istore_n (lv' := [(3, .int (zi 0)), (2, .int (zi 0)), (0, .ref (ad 0 0)), (1, .int (zi p))]) hx hb dX7_devicesOf_3 rfl hl (by decide) rfl (fun ls hl => ?_)
  have loop_4 : ∀ (fuel : Nat) (i : Int) (f : Int), 6 - i < (fuel : Int) → (0 ≤ i) → (i ≤ 6) → (f = cN (fun d => decide (σ 18 d 0 = p)) i) → ∀ (H : Heap) (locs : List Loc), WP Dg ccnt ad (cE cA ad σ) H → va_S (WA ccnt ad s₀.heap.size) s₀.heap H locs → ∀ ls : Array Slot, lv_has ls 4 [(3, .int (zi i)), (2, .int (zi f)), (0, .ref (ad 0 0)), (1, .int (zi p))] → W pgm l env ({ frames := 0, cells := 0, slots := 0, locals := 0 } : Room) s₀ m₀ ([.ref (ad 0 0), .int (zi p)] : List Value).toArray bel mth cod H locs 0 0 (MQ bel (va_Qi (fun (rr : Int32) (_ : Unit) => rr = zi (held σ p)) (gB Dg ccnt ad (cE cA ad σ)) (WA ccnt ad s₀.heap.size)) ([.ref (ad 0 0), .int (zi p)] : List Value).toArray s₀ 0 0 (WA ccnt ad s₀.heap.size)) (F0 m₀ 4 ls []) := by
    intro fuel
    induction fuel with
    | zero => intro i f hn i1 i2 i3; exact absurd hn (by omega)
    | succ fuel ih_4 =>
      intro i f hn i1 i2 i3 H locs hW hS ls hl
      refine lv_iload_n hx hb dX7_devicesOf_4 rfl (lv_at hl 0 rfl) ?_
      refine k_bipush hC dX7_devicesOf_5 (by decide) ?_
      refine k_icmp_ge (tgt := 32) hC dX7_devicesOf_7 (by decide) (by omega) (fun c1 => ?_) (fun c1 => ?_)
      · refine lv_iload_n hx hb dX7_devicesOf_32 rfl (lv_at hl 1 rfl) ?_
        exact k_iret hX (by unfold held; rw [i3, show i = 6 by omega]) hW hS dX7_devicesOf_33
      · refine lv_aload_n hx hb dX7_devicesOf_10 rfl (lv_at hl 2 rfl) ?_
        refine cg_KR_devices hC hW hin_X7 hl_29 dX7_devicesOf_11 ?_
        refine lv_iload_n hx hb dX7_devicesOf_14 rfl (lv_at hl 0 rfl) ?_
        refine ca_devices hC hW (by omega) dX7_devicesOf_15 ?_
        have hO := (hv.O.1 i (by omega) (by omega)).1
        refine cg_Device_owner hC hW hin_X0 hl_131 (by omega) (v := σ 18 i 0) rfl dX7_devicesOf_16 ?_
        refine lv_iload_n hx hb dX7_devicesOf_19 rfl (lv_at hl 3 rfl) ?_
        refine k_icmp_ne (tgt := 26) hC dX7_devicesOf_20 (by decide) (by omega) (fun c2 => ?_) (fun c2 => ?_)
        · refine k_iinc (a := i) (lv' := [(3, .int (zi (i + 1))), (2, .int (zi f)), (0, .ref (ad 0 0)), (1, .int (zi p))]) hC dX7_devicesOf_26 hl (k := 0) rfl (by decide) rfl (fun ls hl => ?_)
          refine lv_goto (tgt := 4) hx hb dX7_devicesOf_29 (by decide) ?_
          have hl := Eq.mp (congrArg (fun z : Int => lv_has ls 4 [(3, .int (zi z)), (2, .int (zi f)), (0, .ref (ad 0 0)), (1, .int (zi p))]) (show (i + 1 : Int) = (i + 1) by omega)) hl
          exact ih_4 (i + 1) f (by omega) (by omega) (by omega) (by first | rw [cN_t _ (by omega) (decide_eq_true (by omega)), i3] | rw [cN_f _ (by omega) (decide_eq_false (by omega)), i3]) _ _ hW hS _ (lv_sub hl [0, 1, 2, 3] rfl)
        · refine k_iinc (a := f) (lv' := [(2, .int (zi (f + 1))), (3, .int (zi i)), (0, .ref (ad 0 0)), (1, .int (zi p))]) hC dX7_devicesOf_23 hl (k := 1) rfl (by decide) rfl (fun ls hl => ?_)
          refine k_iinc (a := i) (lv' := [(3, .int (zi (i + 1))), (2, .int (zi (f + 1))), (0, .ref (ad 0 0)), (1, .int (zi p))]) hC dX7_devicesOf_26 hl (k := 1) rfl (by decide) rfl (fun ls hl => ?_)
          refine lv_goto (tgt := 4) hx hb dX7_devicesOf_29 (by decide) ?_
          have hl := Eq.mp (congrArg (fun z : Int => lv_has ls 4 [(3, .int (zi z)), (2, .int (zi (f + 1))), (0, .ref (ad 0 0)), (1, .int (zi p))]) (show (i + 1 : Int) = (i + 1) by omega)) hl
          have hl := Eq.mp (congrArg (fun z : Int => lv_has ls 4 [(3, .int (zi (i + 1))), (2, .int (zi z)), (0, .ref (ad 0 0)), (1, .int (zi p))]) (show (f + 1 : Int) = (f + 1) by omega)) hl
          exact ih_4 (i + 1) (f + 1) (by omega) (by omega) (by omega) (by first | rw [cN_t _ (by omega) (decide_eq_true (by omega)), i3] | rw [cN_f _ (by omega) (decide_eq_false (by omega)), i3]) _ _ hW hS _ (lv_sub hl [0, 1, 2, 3] rfl)
  exact loop_4 (Int.toNat (6 - 0) + 1) 0 0 (by omega) (by omega) (by omega) rfl _ _ hW hS _ (lv_sub hl [0, 1, 2, 3] rfl)
set_option maxHeartbeats 4000000 in
set_option maxRecDepth 100000 in
theorem m_isNotOut {l : Launch} {Dg : va_G} {cA : Nat → ClassId} {ad : Nat → Int → Nat} {oc : Nat → Nat} (hI : WI ccnt ad) {N M : Int} (σ : St) (x : Int) (hv : Inv N M σ) (hxr : -100 ≤ x ∧ x < 100) : GI l yX7_isNotOut wsX7_isNotOut ({ frames := 0, cells := 0, slots := 0, locals := 0 } : Room) Dg cA ccnt ad oc (cE cA ad σ) [.ref (ad 0 0), .int (zi x)] (if 0 ≤ x ∧ x < σ 27 0 0 ∧ σ 13 x 0 = 0 then 1 else 0) (cE cA ad σ) := by
  intro sz
  refine g_ent (cc := cX7_isNotOut) (maxL := 2) (ret := (some .boolean)) (by decide) rfl hI (Nat.le_of_ble_eq_true rfl) ?_
  intro pgm env s₀ m₀ bel mth cod hX hW hS hsz ls hl
  subst hsz
  have hC := hX.1
  have hx := hC.1
  have hb := hC.2.1
  have hts := hC.2.2.2.1
  have hl : lv_has ls 2 [(0, .ref (ad 0 0)), (1, .int (zi x))] := hl
  have hin_X1 : ∀ w ∈ wsX10, w ∈ wsX7_isNotOut := by decide +kernel
  have hin_X7 : ∀ w ∈ wsX70, w ∈ wsX7_isNotOut := by decide +kernel
  have hl_17 := hts (.fieldLink RX7 17 "KioskReel" "kiosks" "[LKioskReel$Kiosk;") (by decide +kernel)
  have hl_99 := hts (.fieldLink RX7 99 "KioskReel" "kioskCount" "I") (by decide +kernel)
  have hl_152 := hts (.fieldLink RX7 152 "KioskReel$Kiosk" "out" "Z") (by decide +kernel)
  have hA := hv.A
  unfold IvA at hA
  refine lv_iload_n hx hb dX7_isNotOut_0 rfl (lv_at hl 1 rfl) ?_
  refine k_if_lt (tgt := 28) hC dX7_isNotOut_1 (by decide) (by omega) (fun c1 => ?_) (fun c1 => ?_)
  · refine k_iconst hC dX7_isNotOut_28 ?_
    exact k_zret hX (by omega) (by first | rw [if_pos (by omega)] | rw [if_neg (by omega)]) hW hS dX7_isNotOut_29
  · refine lv_iload_n hx hb dX7_isNotOut_4 rfl (lv_at hl 1 rfl) ?_
    refine lv_aload_n hx hb dX7_isNotOut_5 rfl (lv_at hl 0 rfl) ?_
    refine cg_KR_kioskCount hC hW hin_X7 hl_99 (v := σ 27 0 0) rfl dX7_isNotOut_6 ?_
    refine k_icmp_ge (tgt := 28) hC dX7_isNotOut_9 (by decide) (by omega) (fun c2 => ?_) (fun c2 => ?_)
    · refine k_iconst hC dX7_isNotOut_28 ?_
      exact k_zret hX (by omega) (by first | rw [if_pos (by omega)] | rw [if_neg (by omega)]) hW hS dX7_isNotOut_29
    · refine lv_aload_n hx hb dX7_isNotOut_12 rfl (lv_at hl 0 rfl) ?_
      refine cg_KR_kiosks hC hW hin_X7 hl_17 dX7_isNotOut_13 ?_
      refine lv_iload_n hx hb dX7_isNotOut_16 rfl (lv_at hl 1 rfl) ?_
      refine ca_kiosks hC hW (by omega) dX7_isNotOut_17 ?_
      have hK := (hv.K x (by omega) (by omega)).2.1
      refine cg_Kiosk_out hC hW hin_X1 hl_152 (by omega) (v := σ 13 x 0) rfl dX7_isNotOut_18 ?_
      refine k_if_ne (tgt := 28) hC dX7_isNotOut_21 (by decide) (by omega) (fun c3 => ?_) (fun c3 => ?_)
      · refine k_iconst hC dX7_isNotOut_28 ?_
        exact k_zret hX (by omega) (by first | rw [if_pos (by omega)] | rw [if_neg (by omega)]) hW hS dX7_isNotOut_29
      · refine k_iconst hC dX7_isNotOut_24 ?_
        refine lv_goto (tgt := 29) hx hb dX7_isNotOut_25 (by decide) ?_
        exact k_zret hX (by omega) (by first | rw [if_pos (by omega)] | rw [if_neg (by omega)]) hW hS dX7_isNotOut_29
set_option maxHeartbeats 4000000 in
set_option maxRecDepth 100000 in
theorem m_nearest {l : Launch} {Dg : va_G} {cA : Nat → ClassId} {ad : Nat → Int → Nat} {oc : Nat → Nat} (hI : WI ccnt ad) {N M : Int} (σ : St) (k : Int) (hv : Inv N M σ) (hk : 0 ≤ k ∧ k < σ 27 0 0) : GI l yX7_nearestNotOut wsX7_nearestNotOut ({ frames := 1, cells := 0, slots := 0, locals := 21 } : Room) Dg cA ccnt ad oc (cE cA ad σ) [.ref (ad 0 0), .int (zi k)] (near σ k) (cE cA ad σ) := by
  intro sz
  refine g_ent (cc := cX7_nearestNotOut) (maxL := 3) (ret := (some .int)) (by decide) rfl hI (Nat.le_of_ble_eq_true rfl) ?_
  intro pgm env s₀ m₀ bel mth cod hX hW hS hsz ls hl
  subst hsz
  have hC := hX.1
  have hx := hC.1
  have hb := hC.2.1
  have hts := hC.2.2.2.1
  have hl : lv_has ls 3 [(0, .ref (ad 0 0)), (1, .int (zi k))] := hl
  have hin_X7 : ∀ w ∈ wsX70, w ∈ wsX7_nearestNotOut := by decide +kernel
  have hl_99 := hts (.fieldLink RX7 99 "KioskReel" "kioskCount" "I") (by decide +kernel)
  have hA := hv.A
  unfold IvA at hA
  refine k_iconst hC dX7_nearestNotOut_0 ?_
  refine lv_istore_n (lv' := [(2, .int (zi 0)), (0, .ref (ad 0 0)), (1, .int (zi k))]) hx hb dX7_nearestNotOut_1 rfl hl (by decide) rfl (fun ls hl => ?_)
  have loop_2 : ∀ (fuel : Nat) (d : Int), σ 27 0 0 - d < (fuel : Int) → (0 ≤ d) → (d ≤ σ 27 0 0) → (∀ y : Int, 0 ≤ y → y < σ 27 0 0 → apart y k < d → σ 13 y 0 ≠ 0) → ∀ (H : Heap) (locs : List Loc), WP Dg ccnt ad (cE cA ad σ) H → va_S (WA ccnt ad s₀.heap.size) s₀.heap H locs → ∀ ls : Array Slot, lv_has ls 3 [(2, .int (zi d)), (0, .ref (ad 0 0)), (1, .int (zi k))] → W pgm l env ({ frames := 1, cells := 0, slots := 0, locals := 21 } : Room) s₀ m₀ ([.ref (ad 0 0), .int (zi k)] : List Value).toArray bel mth cod H locs 0 0 (MQ bel (va_Qi (fun (rr : Int32) (_ : Unit) => rr = zi (near σ k)) (gB Dg ccnt ad (cE cA ad σ)) (WA ccnt ad s₀.heap.size)) ([.ref (ad 0 0), .int (zi k)] : List Value).toArray s₀ 0 0 (WA ccnt ad s₀.heap.size)) (F0 m₀ 2 ls []) := by
    intro fuel
    induction fuel with
    | zero => intro d hn i1 i2 i3; exact absurd hn (by omega)
    | succ fuel ih_2 =>
      intro d hn i1 i2 i3 H locs hW hS ls hl
      refine lv_iload_n hx hb dX7_nearestNotOut_2 rfl (lv_at hl 0 rfl) ?_
      refine lv_aload_n hx hb dX7_nearestNotOut_3 rfl (lv_at hl 1 rfl) ?_
      refine cg_KR_kioskCount hC hW hin_X7 hl_99 (v := σ 27 0 0) rfl dX7_nearestNotOut_4 ?_
      refine k_icmp_ge (tgt := 44) hC dX7_nearestNotOut_7 (by decide) (by omega) (fun c1 => ?_) (fun c1 => ?_)
      · refine k_iconst hC dX7_nearestNotOut_44 ?_
        exact k_iret hX (near_end hk (by omega) i3).symm hW hS dX7_nearestNotOut_45
      · refine lv_aload_n hx hb dX7_nearestNotOut_10 rfl (lv_at hl 1 rfl) ?_
        refine lv_iload_n hx hb dX7_nearestNotOut_11 rfl (lv_at hl 2 rfl) ?_
        refine lv_iload_n hx hb dX7_nearestNotOut_12 rfl (lv_at hl 0 rfl) ?_
        refine k_isub hC dX7_nearestNotOut_13 ?_
        refine k_callI (As := [.int (zi (k - d))]) (rest := []) hX hl.1 (m_isNotOut hI σ (k - d) hv (by omega)) (cwV 1 hts gX7_nearestNotOut_X7_isNotOut rfl rfl rfl (by decide +kernel) ⟨Nat.le_of_ble_eq_true rfl, Nat.le_of_ble_eq_true rfl⟩) (rc_KR hC hW) hW hS ⟨Nat.zero_le _, Nat.zero_le _⟩ rfl rfl (Nat.le_of_ble_eq_true rfl) dX7_nearestNotOut_14 (fun H locs hW hS _ _ => ?_)
        refine k_if_eq (tgt := 24) hC dX7_nearestNotOut_17 (by decide) (by omega) (fun c2 => ?_) (fun c2 => ?_)
        · refine lv_aload_n hx hb dX7_nearestNotOut_24 rfl (lv_at hl 1 rfl) ?_
          refine lv_iload_n hx hb dX7_nearestNotOut_25 rfl (lv_at hl 2 rfl) ?_
          refine lv_iload_n hx hb dX7_nearestNotOut_26 rfl (lv_at hl 0 rfl) ?_
          refine k_iadd hC dX7_nearestNotOut_27 ?_
          refine k_callI (As := [.int (zi (k + d))]) (rest := []) hX hl.1 (m_isNotOut hI σ (k + d) hv (by omega)) (cwV 1 hts gX7_nearestNotOut_X7_isNotOut rfl rfl rfl (by decide +kernel) ⟨Nat.le_of_ble_eq_true rfl, Nat.le_of_ble_eq_true rfl⟩) (rc_KR hC hW) hW hS ⟨Nat.zero_le _, Nat.zero_le _⟩ rfl rfl (Nat.le_of_ble_eq_true rfl) dX7_nearestNotOut_28 (fun H locs hW hS _ _ => ?_)
          refine k_if_eq (tgt := 38) hC dX7_nearestNotOut_31 (by decide) (by omega) (fun c3 => ?_) (fun c3 => ?_)
          · refine k_iinc (a := d) (lv' := [(2, .int (zi (d + 1))), (0, .ref (ad 0 0)), (1, .int (zi k))]) hC dX7_nearestNotOut_38 hl (k := 0) rfl (by decide) rfl (fun ls hl => ?_)
            refine lv_goto (tgt := 2) hx hb dX7_nearestNotOut_41 (by decide) ?_
            have hl := Eq.mp (congrArg (fun z : Int => lv_has ls 3 [(2, .int (zi z)), (0, .ref (ad 0 0)), (1, .int (zi k))]) (show (d + 1 : Int) = (d + 1) by omega)) hl
            exact ih_2 (d + 1) (by omega) (by omega) (by omega) (near_go i3 (by omega) (by omega)) _ _ hW hS _ (lv_sub hl [0, 1, 2] rfl)
          · refine lv_iload_n hx hb dX7_nearestNotOut_34 rfl (lv_at hl 2 rfl) ?_
            refine lv_iload_n hx hb dX7_nearestNotOut_35 rfl (lv_at hl 0 rfl) ?_
            refine k_iadd hC dX7_nearestNotOut_36 ?_
            exact k_iret hX (near_R i1 i3 (by omega) (by omega)).symm hW hS dX7_nearestNotOut_37
        · refine lv_iload_n hx hb dX7_nearestNotOut_20 rfl (lv_at hl 2 rfl) ?_
          refine lv_iload_n hx hb dX7_nearestNotOut_21 rfl (lv_at hl 0 rfl) ?_
          refine k_isub hC dX7_nearestNotOut_22 ?_
          exact k_iret hX (near_L i1 i3 (by omega)).symm hW hS dX7_nearestNotOut_23
  exact loop_2 (Int.toNat (σ 27 0 0 - 0) + 1) 0 (by omega) (by omega) (by omega) (fun y a b c => by unfold apart at c; omega) _ _ hW hS _ (lv_sub hl [0, 1, 2] rfl)
end M2
