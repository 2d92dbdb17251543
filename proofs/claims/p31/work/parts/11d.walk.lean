section W31
set_option maxHeartbeats 4000000 in
set_option maxRecDepth 100000 in
theorem m_meanSeen_x {l : Launch} {Dg : va_G} {cA : Nat → ClassId} {ad : Nat → Int → Nat} {oc : Nat → Nat} (hI : WI ccnt ad) (hfl : l.stackTraces = false) (σ : St) (h1 : σ 28 0 0 = 0) : GX l yX7_meanSeen wsX7_meanSeen ({ frames := 6, cells := 1, slots := 6, locals := 90 } : Room) Dg cA ccnt ad oc (cE cA ad σ) [.ref (ad 0 0)] "java/lang/ArithmeticException" := by
  intro sz
  refine gx_ent (cc := cX7_meanSeen) (maxL := 5) (ret := (some .double)) (by decide) rfl hI (Nat.le_of_ble_eq_true rfl) ?_
  intro pgm env s₀ m₀ bel mth cod hX hno hW hS hsz ls hl
  subst hsz
  have hC := hX.1
  have hx := hC.1
  have hb := hC.2.1
  have hts := hC.2.2.2.1
  have hl : lv_has ls 5 [(0, .ref (ad 0 0))] := hl
  have hin_X7 : ∀ w ∈ wsX70, w ∈ wsX7_meanSeen := by decide +kernel
  have hl_208 := hts (.fieldLink RX7 208 "KioskReel" "visitorCount" "I") (by decide +kernel)
  refine lv_aload_n hx hb dX7_meanSeen_0 rfl (lv_at hl 0 rfl) ?_
  refine cg_KR_visitorCount hC hW hin_X7 hl_208 (v := σ 28 0 0) rfl dX7_meanSeen_1 ?_
  refine k_if_ne (tgt := 17) hC dX7_meanSeen_4 (by decide) (by omega) (fun c1 => absurd c1 (by omega)) (fun c1 => ?_)
  exact k_throw (rest := []) (text := "there are no visitors") hX rfl hno hl.1 hfl (by decide +kernel) (by decide +kernel) (by decide +kernel) (by decide +kernel) (by decide +kernel) (by decide +kernel) (by decide +kernel) hW hS dX7_meanSeen_7 dX7_meanSeen_10 dX7_meanSeen_11 dX7_meanSeen_13 dX7_meanSeen_16 ⟨Nat.le_of_ble_eq_true rfl, Nat.le_of_ble_eq_true rfl, Nat.le_of_ble_eq_true rfl, Nat.le_of_ble_eq_true rfl⟩
set_option maxHeartbeats 2000000 in
set_option maxRecDepth 100000 in
theorem w_meanSeen_x {l : Launch} {Dg : va_G} {cA : Nat → ClassId} {ad : Nat → Int → Nat} {oc : Nat → Nat} (hI : WI ccnt ad) (hfl : l.stackTraces = false) (σ : St) (h1 : σ 28 0 0 = 0) : GWD l yL_meanSeen wsL_meanSeen ({ frames := 7, cells := 1, slots := 6, locals := 114 } : Room) Dg cA ad oc (cE cA ad σ) [.ref (ad 0 0)] 13919350198670196736 (cE cA ad σ) := by
  intro sz
  refine w_ent (cc := cL_meanSeen) (maxL := 2) (ret := (some .double)) (hh := [(0, 4, 5, 74)]) (by decide) rfl hI (Nat.le_of_ble_eq_true rfl) ?_
  intro pgm env s₀ m₀ bel mth cod hX htab hNc hW hS hsz ls hl
  subst hsz
  have hC := hX.1
  have hx := hC.1
  have hb := hC.2.1
  have hts := hC.2.2.2.1
  have hl : lv_has ls 2 [(0, .ref (ad 0 0))] := hl
  refine lv_aload_n hx hb dL_meanSeen_0 rfl (lv_at hl 0 rfl) ?_
  have hl_74 := hts (.classLink RL 74 "java/lang/ArithmeticException") (by decide +kernel)
  refine w_caught (rest := []) (As := []) (name := "java/lang/ArithmeticException") [] ⟨0, 4, 5, 74⟩ [] (tgt := 5) hX htab (fun _ h => absurd h List.not_mem_nil) (by decide) (by decide) hl_74 (by decide) rfl hl.1 (m_meanSeen_x hI hfl σ h1) (cwV 0 hts gL_meanSeen_X7_meanSeen rfl rfl rfl (by decide +kernel) ⟨Nat.le_of_ble_eq_true rfl, Nat.le_of_ble_eq_true rfl⟩) (rc_KR hC hW) hW hS ⟨Nat.le_of_ble_eq_true rfl, Nat.le_of_ble_eq_true rfl⟩ rfl rfl (Nat.le_of_ble_eq_true rfl) dL_meanSeen_1 (fun H locs q hW hS hz hk => ?_)
  refine lv_astore_n (lv' := [(1, .ref q), (0, .ref (ad 0 0))]) hx hb dL_meanSeen_5 rfl hl (by decide) rfl (fun ls hl => ?_)
  refine lv_ldc2d hx hb hC.2.2.1 (hts (.constantDouble RL 76 (13919350198670196736)) (by decide +kernel)) dL_meanSeen_6 ?_
  exact w_retD hX hW hS (Nat.le_refl _) (Nat.le_refl _) dL_meanSeen_9
set_option maxHeartbeats 2000000 in
set_option maxRecDepth 100000 in
theorem w_start {l : Launch} {Dg : va_G} {cA : Nat → ClassId} {ad : Nat → Int → Nat} {oc : Nat → Nat} (hI : WI ccnt ad) (hfl : l.stackTraces = false) {N M : Int} (σ : St) (k r : Int) (hv : Inv N M σ) (hk : 0 ≤ k ∧ k < σ 27 0 0) (hr : 0 ≤ r ∧ r < σ 26 0 0) (h6 : σ 6 k 0 = 0) : GW l yL_start wsL_start ({ frames := 8, cells := 1, slots := 6, locals := 134 } : Room) Dg cA ad oc (cE cA ad σ) [.ref (ad 0 0), .int (zi k), .int (zi r)] (fStart σ k r 8 k 0) (cE cA ad (fStart σ k r)) := by
  intro sz
  refine w_ent (cc := cL_start) (maxL := 4) (ret := (some .int)) (hh := [(0, 6, 7, 22), (0, 6, 11, 15)]) (by decide) rfl hI (Nat.le_of_ble_eq_true rfl) ?_
  intro pgm env s₀ m₀ bel mth cod hX htab hNc hW hS hsz ls hl
  subst hsz
  have hC := hX.1
  have hx := hC.1
  have hb := hC.2.1
  have hts := hC.2.2.2.1
  have hl : lv_has ls 4 [(0, .ref (ad 0 0)), (1, .int (zi k)), (2, .int (zi r))] := hl
  refine lv_aload_n hx hb dL_start_0 rfl (lv_at hl 0 rfl) ?_
  refine lv_iload_n hx hb dL_start_1 rfl (lv_at hl 1 rfl) ?_
  refine lv_iload_n hx hb dL_start_2 rfl (lv_at hl 2 rfl) ?_
  refine k_callI (As := [.int (zi k), .int (zi r)]) (rest := []) hX hl.1 (m_start hI σ k r hv hk hr h6) (cwV 2 hts gL_start_X7_start rfl rfl rfl (by decide +kernel) ⟨Nat.le_of_ble_eq_true rfl, Nat.le_of_ble_eq_true rfl⟩) (rc_KR hC hW) hW hS ⟨Nat.zero_le _, Nat.zero_le _⟩ rfl rfl (Nat.le_of_ble_eq_true rfl) dL_start_3 (fun H locs hW hS _ _ => ?_)
  exact w_ret hX rfl hW hS (Nat.zero_le _) (Nat.zero_le _) dL_start_6
set_option maxHeartbeats 2000000 in
set_option maxRecDepth 100000 in
theorem w_start_x {l : Launch} {Dg : va_G} {cA : Nat → ClassId} {ad : Nat → Int → Nat} {oc : Nat → Nat} (hI : WI ccnt ad) (hfl : l.stackTraces = false) {N M : Int} (σ : St) (k r : Int) (hv : Inv N M σ) (h1 : ¬ (0 ≤ k ∧ k < σ 27 0 0)) (hxr : -2147483648 ≤ k ∧ k < 2147483648) : GW l yL_start wsL_start ({ frames := 8, cells := 1, slots := 6, locals := 134 } : Room) Dg cA ad oc (cE cA ad σ) [.ref (ad 0 0), .int (zi k), .int (zi r)] (-900001) (cE cA ad σ) := by
  intro sz
  refine w_ent (cc := cL_start) (maxL := 4) (ret := (some .int)) (hh := [(0, 6, 7, 22), (0, 6, 11, 15)]) (by decide) rfl hI (Nat.le_of_ble_eq_true rfl) ?_
  intro pgm env s₀ m₀ bel mth cod hX htab hNc hW hS hsz ls hl
  subst hsz
  have hC := hX.1
  have hx := hC.1
  have hb := hC.2.1
  have hts := hC.2.2.2.1
  have hl : lv_has ls 4 [(0, .ref (ad 0 0)), (1, .int (zi k)), (2, .int (zi r))] := hl
  refine lv_aload_n hx hb dL_start_0 rfl (lv_at hl 0 rfl) ?_
  refine lv_iload_n hx hb dL_start_1 rfl (lv_at hl 1 rfl) ?_
  refine lv_iload_n hx hb dL_start_2 rfl (lv_at hl 2 rfl) ?_
  have hl_22 := hts (.classLink RL 22 "java/lang/IndexOutOfBoundsException") (by decide +kernel)
  refine w_caught (rest := []) (As := [.int (zi k), .int (zi r)]) (name := "java/lang/IndexOutOfBoundsException") [] ⟨0, 6, 7, 22⟩ [⟨0, 6, 11, 15⟩] (tgt := 7) hX htab (fun _ h => absurd h List.not_mem_nil) (by decide) (by decide) hl_22 (by decide) rfl hl.1 (m_start_x hI hfl σ k r hv h1 hxr) (cwV 2 hts gL_start_X7_start rfl rfl rfl (by decide +kernel) ⟨Nat.le_of_ble_eq_true rfl, Nat.le_of_ble_eq_true rfl⟩) (rc_KR hC hW) hW hS ⟨Nat.le_of_ble_eq_true rfl, Nat.le_of_ble_eq_true rfl⟩ rfl rfl (Nat.le_of_ble_eq_true rfl) dL_start_3 (fun H locs q hW hS hz hk => ?_)
  refine lv_astore_n (lv' := [(3, .ref q), (0, .ref (ad 0 0)), (1, .int (zi k)), (2, .int (zi r))]) hx hb dL_start_7 rfl hl (by decide) rfl (fun ls hl => ?_)
  refine k_ldc (n := (-900001)) hC (by decide) (hts (.constant RL 17 (-900001)) (by decide +kernel)) dL_start_8 ?_
  exact w_ret hX rfl hW hS (Nat.le_refl _) (Nat.le_refl _) dL_start_10
set_option maxHeartbeats 2000000 in
set_option maxRecDepth 100000 in
theorem w_start_y {l : Launch} {Dg : va_G} {cA : Nat → ClassId} {ad : Nat → Int → Nat} {oc : Nat → Nat} (hI : WI ccnt ad) (hfl : l.stackTraces = false) {N M : Int} (σ : St) (k r : Int) (hv : Inv N M σ) (hk : 0 ≤ k ∧ k < σ 27 0 0) (h1 : ¬ (0 ≤ r ∧ r < σ 26 0 0)) (hxr : -2147483648 ≤ r ∧ r < 2147483648) : GW l yL_start wsL_start ({ frames := 8, cells := 1, slots := 6, locals := 134 } : Room) Dg cA ad oc (cE cA ad σ) [.ref (ad 0 0), .int (zi k), .int (zi r)] (-900001) (cE cA ad σ) := by
  intro sz
  refine w_ent (cc := cL_start) (maxL := 4) (ret := (some .int)) (hh := [(0, 6, 7, 22), (0, 6, 11, 15)]) (by decide) rfl hI (Nat.le_of_ble_eq_true rfl) ?_
  intro pgm env s₀ m₀ bel mth cod hX htab hNc hW hS hsz ls hl
  subst hsz
  have hC := hX.1
  have hx := hC.1
  have hb := hC.2.1
  have hts := hC.2.2.2.1
  have hl : lv_has ls 4 [(0, .ref (ad 0 0)), (1, .int (zi k)), (2, .int (zi r))] := hl
  refine lv_aload_n hx hb dL_start_0 rfl (lv_at hl 0 rfl) ?_
  refine lv_iload_n hx hb dL_start_1 rfl (lv_at hl 1 rfl) ?_
  refine lv_iload_n hx hb dL_start_2 rfl (lv_at hl 2 rfl) ?_
  have hl_22 := hts (.classLink RL 22 "java/lang/IndexOutOfBoundsException") (by decide +kernel)
  refine w_caught (rest := []) (As := [.int (zi k), .int (zi r)]) (name := "java/lang/IndexOutOfBoundsException") [] ⟨0, 6, 7, 22⟩ [⟨0, 6, 11, 15⟩] (tgt := 7) hX htab (fun _ h => absurd h List.not_mem_nil) (by decide) (by decide) hl_22 (by decide) rfl hl.1 (m_start_y hI hfl σ k r hv hk h1 hxr) (cwV 2 hts gL_start_X7_start rfl rfl rfl (by decide +kernel) ⟨Nat.le_of_ble_eq_true rfl, Nat.le_of_ble_eq_true rfl⟩) (rc_KR hC hW) hW hS ⟨Nat.le_of_ble_eq_true rfl, Nat.le_of_ble_eq_true rfl⟩ rfl rfl (Nat.le_of_ble_eq_true rfl) dL_start_3 (fun H locs q hW hS hz hk => ?_)
  refine lv_astore_n (lv' := [(3, .ref q), (0, .ref (ad 0 0)), (1, .int (zi k)), (2, .int (zi r))]) hx hb dL_start_7 rfl hl (by decide) rfl (fun ls hl => ?_)
  refine k_ldc (n := (-900001)) hC (by decide) (hts (.constant RL 17 (-900001)) (by decide +kernel)) dL_start_8 ?_
  exact w_ret hX rfl hW hS (Nat.le_refl _) (Nat.le_refl _) dL_start_10
set_option maxHeartbeats 2000000 in
set_option maxRecDepth 100000 in
theorem w_start_s {l : Launch} {Dg : va_G} {cA : Nat → ClassId} {ad : Nat → Int → Nat} {oc : Nat → Nat} (hI : WI ccnt ad) (hfl : l.stackTraces = false) {N M : Int} (σ : St) (k r : Int) (hv : Inv N M σ) (hk : 0 ≤ k ∧ k < σ 27 0 0) (hr : 0 ≤ r ∧ r < σ 26 0 0) (h6 : σ 6 k 0 = 1) : GW l yL_start wsL_start ({ frames := 8, cells := 1, slots := 6, locals := 134 } : Room) Dg cA ad oc (cE cA ad σ) [.ref (ad 0 0), .int (zi k), .int (zi r)] (-900002) (cE cA ad σ) := by
  intro sz
  refine w_ent (cc := cL_start) (maxL := 4) (ret := (some .int)) (hh := [(0, 6, 7, 22), (0, 6, 11, 15)]) (by decide) rfl hI (Nat.le_of_ble_eq_true rfl) ?_
  intro pgm env s₀ m₀ bel mth cod hX htab hNc hW hS hsz ls hl
  subst hsz
  have hC := hX.1
  have hx := hC.1
  have hb := hC.2.1
  have hts := hC.2.2.2.1
  have hl : lv_has ls 4 [(0, .ref (ad 0 0)), (1, .int (zi k)), (2, .int (zi r))] := hl
  refine lv_aload_n hx hb dL_start_0 rfl (lv_at hl 0 rfl) ?_
  refine lv_iload_n hx hb dL_start_1 rfl (lv_at hl 1 rfl) ?_
  refine lv_iload_n hx hb dL_start_2 rfl (lv_at hl 2 rfl) ?_
  have hl_22 := hts (.classLink RL 22 "java/lang/IndexOutOfBoundsException") (by decide +kernel)
  have hl_15 := hts (.classLink RL 15 "java/lang/IllegalStateException") (by decide +kernel)
  refine w_caught (rest := []) (As := [.int (zi k), .int (zi r)]) (name := "java/lang/IllegalStateException") [⟨0, 6, 7, 22⟩] ⟨0, 6, 11, 15⟩ [] (tgt := 11) hX htab (List.forall_mem_cons.mpr ⟨⟨by decide, _, hl_22, hNc ("java/lang/IllegalStateException", "java/lang/IndexOutOfBoundsException") (by decide)⟩, (fun _ h => absurd h List.not_mem_nil)⟩) (by decide) (by decide) hl_15 (by decide) rfl hl.1 (m_start_s hI hfl σ k r hv hk hr h6) (cwV 2 hts gL_start_X7_start rfl rfl rfl (by decide +kernel) ⟨Nat.le_of_ble_eq_true rfl, Nat.le_of_ble_eq_true rfl⟩) (rc_KR hC hW) hW hS ⟨Nat.le_of_ble_eq_true rfl, Nat.le_of_ble_eq_true rfl⟩ rfl rfl (Nat.le_of_ble_eq_true rfl) dL_start_3 (fun H locs q hW hS hz hk => ?_)
  refine lv_astore_n (lv' := [(3, .ref q), (0, .ref (ad 0 0)), (1, .int (zi k)), (2, .int (zi r))]) hx hb dL_start_11 rfl hl (by decide) rfl (fun ls hl => ?_)
  refine k_ldc (n := (-900002)) hC (by decide) (hts (.constant RL 26 (-900002)) (by decide +kernel)) dL_start_12 ?_
  exact w_ret hX rfl hW hS (Nat.le_refl _) (Nat.le_refl _) dL_start_14
set_option maxHeartbeats 2000000 in
set_option maxRecDepth 100000 in
theorem w_list {l : Launch} {Dg : va_G} {cA : Nat → ClassId} {ad : Nat → Int → Nat} {oc : Nat → Nat} (hI : WI ccnt ad) (hfl : l.stackTraces = false) (σ : St) (h1 : 0 ≤ σ 26 0 0 ∧ σ 26 0 0 < 8) : GW l yL_list wsL_list ({ frames := 7, cells := 1, slots := 6, locals := 110 } : Room) Dg cA ad oc (cE cA ad σ) [.ref (ad 0 0)] (σ 26 0 0) (cE cA ad (ups σ 26 0 0 (σ 26 0 0 + 1))) := by
  intro sz
  refine w_ent (cc := cL_list) (maxL := 2) (ret := (some .int)) (hh := [(0, 4, 5, 15)]) (by decide) rfl hI (Nat.le_of_ble_eq_true rfl) ?_
  intro pgm env s₀ m₀ bel mth cod hX htab hNc hW hS hsz ls hl
  subst hsz
  have hC := hX.1
  have hx := hC.1
  have hb := hC.2.1
  have hts := hC.2.2.2.1
  have hl : lv_has ls 2 [(0, .ref (ad 0 0))] := hl
  refine lv_aload_n hx hb dL_list_0 rfl (lv_at hl 0 rfl) ?_
  refine k_callI (As := []) (rest := []) hX hl.1 (m_list hI σ h1) (cwV 0 hts gL_list_X7_list rfl rfl rfl (by decide +kernel) ⟨Nat.le_of_ble_eq_true rfl, Nat.le_of_ble_eq_true rfl⟩) (rc_KR hC hW) hW hS ⟨Nat.zero_le _, Nat.zero_le _⟩ rfl rfl (Nat.le_of_ble_eq_true rfl) dL_list_1 (fun H locs hW hS _ _ => ?_)
  exact w_ret hX rfl hW hS (Nat.zero_le _) (Nat.zero_le _) dL_list_4
set_option maxHeartbeats 2000000 in
set_option maxRecDepth 100000 in
theorem w_kiosk {l : Launch} {Dg : va_G} {cA : Nat → ClassId} {ad : Nat → Int → Nat} {oc : Nat → Nat} (hI : WI ccnt ad) (hfl : l.stackTraces = false) (σ : St) (h1 : 0 ≤ σ 27 0 0 ∧ σ 27 0 0 < 6) : GW l yL_kiosk wsL_kiosk ({ frames := 7, cells := 1, slots := 6, locals := 110 } : Room) Dg cA ad oc (cE cA ad σ) [.ref (ad 0 0)] (σ 27 0 0) (cE cA ad (ups σ 27 0 0 (σ 27 0 0 + 1))) := by
  intro sz
  refine w_ent (cc := cL_kiosk) (maxL := 2) (ret := (some .int)) (hh := [(0, 4, 5, 15)]) (by decide) rfl hI (Nat.le_of_ble_eq_true rfl) ?_
  intro pgm env s₀ m₀ bel mth cod hX htab hNc hW hS hsz ls hl
  subst hsz
  have hC := hX.1
  have hx := hC.1
  have hb := hC.2.1
  have hts := hC.2.2.2.1
  have hl : lv_has ls 2 [(0, .ref (ad 0 0))] := hl
  refine lv_aload_n hx hb dL_kiosk_0 rfl (lv_at hl 0 rfl) ?_
  refine k_callI (As := []) (rest := []) hX hl.1 (m_kiosk hI σ h1) (cwV 0 hts gL_kiosk_X7_kiosk rfl rfl rfl (by decide +kernel) ⟨Nat.le_of_ble_eq_true rfl, Nat.le_of_ble_eq_true rfl⟩) (rc_KR hC hW) hW hS ⟨Nat.zero_le _, Nat.zero_le _⟩ rfl rfl (Nat.le_of_ble_eq_true rfl) dL_kiosk_1 (fun H locs hW hS _ _ => ?_)
  exact w_ret hX rfl hW hS (Nat.zero_le _) (Nat.zero_le _) dL_kiosk_4
set_option maxHeartbeats 2000000 in
set_option maxRecDepth 100000 in
theorem w_stop {l : Launch} {Dg : va_G} {cA : Nat → ClassId} {ad : Nat → Int → Nat} {oc : Nat → Nat} (hI : WI ccnt ad) (hfl : l.stackTraces = false) {N M : Int} (σ : St) (k : Int) (hv : Inv N M σ) (hk : 0 ≤ k ∧ k < σ 27 0 0) (h6 : σ 6 k 0 = 1) : GW l yL_stop wsL_stop ({ frames := 9, cells := 1, slots := 6, locals := 155 } : Room) Dg cA ad oc (cE cA ad σ) [.ref (ad 0 0), .int (zi k)] (held σ k) (cE cA ad (fStop σ k)) := by
  intro sz
  refine w_ent (cc := cL_stop) (maxL := 3) (ret := (some .int)) (hh := [(0, 5, 6, 22), (0, 5, 10, 47)]) (by decide) rfl hI (Nat.le_of_ble_eq_true rfl) ?_
  intro pgm env s₀ m₀ bel mth cod hX htab hNc hW hS hsz ls hl
  subst hsz
  have hC := hX.1
  have hx := hC.1
  have hb := hC.2.1
  have hts := hC.2.2.2.1
  have hl : lv_has ls 3 [(0, .ref (ad 0 0)), (1, .int (zi k))] := hl
  refine lv_aload_n hx hb dL_stop_0 rfl (lv_at hl 0 rfl) ?_
  refine lv_iload_n hx hb dL_stop_1 rfl (lv_at hl 1 rfl) ?_
  refine k_callI (As := [.int (zi k)]) (rest := []) hX hl.1 (m_stop hI σ k hv hk h6) (cwV 1 hts gL_stop_X7_stop rfl rfl rfl (by decide +kernel) ⟨Nat.le_of_ble_eq_true rfl, Nat.le_of_ble_eq_true rfl⟩) (rc_KR hC hW) hW hS ⟨Nat.zero_le _, Nat.zero_le _⟩ rfl rfl (Nat.le_of_ble_eq_true rfl) dL_stop_2 (fun H locs hW hS _ _ => ?_)
  exact w_ret hX rfl hW hS (Nat.zero_le _) (Nat.zero_le _) dL_stop_5
set_option maxHeartbeats 2000000 in
set_option maxRecDepth 100000 in
theorem w_stop_n {l : Launch} {Dg : va_G} {cA : Nat → ClassId} {ad : Nat → Int → Nat} {oc : Nat → Nat} (hI : WI ccnt ad) (hfl : l.stackTraces = false) {N M : Int} (σ : St) (k : Int) (hv : Inv N M σ) (hk : 0 ≤ k ∧ k < σ 27 0 0) (h2 : σ 6 k 0 = 0) : GW l yL_stop wsL_stop ({ frames := 9, cells := 1, slots := 6, locals := 155 } : Room) Dg cA ad oc (cE cA ad σ) [.ref (ad 0 0), .int (zi k)] (-900002) (cE cA ad σ) := by
  intro sz
  refine w_ent (cc := cL_stop) (maxL := 3) (ret := (some .int)) (hh := [(0, 5, 6, 22), (0, 5, 10, 47)]) (by decide) rfl hI (Nat.le_of_ble_eq_true rfl) ?_
  intro pgm env s₀ m₀ bel mth cod hX htab hNc hW hS hsz ls hl
  subst hsz
  have hC := hX.1
  have hx := hC.1
  have hb := hC.2.1
  have hts := hC.2.2.2.1
  have hl : lv_has ls 3 [(0, .ref (ad 0 0)), (1, .int (zi k))] := hl
  refine lv_aload_n hx hb dL_stop_0 rfl (lv_at hl 0 rfl) ?_
  refine lv_iload_n hx hb dL_stop_1 rfl (lv_at hl 1 rfl) ?_
  have hl_22 := hts (.classLink RL 22 "java/lang/IndexOutOfBoundsException") (by decide +kernel)
  have hl_47 := hts (.classLink RL 47 "java/util/NoSuchElementException") (by decide +kernel)
  refine w_caught (rest := []) (As := [.int (zi k)]) (name := "java/util/NoSuchElementException") [⟨0, 5, 6, 22⟩] ⟨0, 5, 10, 47⟩ [] (tgt := 10) hX htab (List.forall_mem_cons.mpr ⟨⟨by decide, _, hl_22, hNc ("java/util/NoSuchElementException", "java/lang/IndexOutOfBoundsException") (by decide)⟩, (fun _ h => absurd h List.not_mem_nil)⟩) (by decide) (by decide) hl_47 (by decide) rfl hl.1 (m_stop_n hI hfl σ k hv hk h2) (cwV 1 hts gL_stop_X7_stop rfl rfl rfl (by decide +kernel) ⟨Nat.le_of_ble_eq_true rfl, Nat.le_of_ble_eq_true rfl⟩) (rc_KR hC hW) hW hS ⟨Nat.le_of_ble_eq_true rfl, Nat.le_of_ble_eq_true rfl⟩ rfl rfl (Nat.le_of_ble_eq_true rfl) dL_stop_2 (fun H locs q hW hS hz hk => ?_)
  refine lv_astore_n (lv' := [(2, .ref q), (0, .ref (ad 0 0)), (1, .int (zi k))]) hx hb dL_stop_10 rfl hl (by decide) rfl (fun ls hl => ?_)
  refine k_ldc (n := (-900002)) hC (by decide) (hts (.constant RL 26 (-900002)) (by decide +kernel)) dL_stop_11 ?_
  exact w_ret hX rfl hW hS (Nat.le_refl _) (Nat.le_refl _) dL_stop_13
set_option maxHeartbeats 2000000 in
set_option maxRecDepth 100000 in
theorem w_slide {l : Launch} {Dg : va_G} {cA : Nat → ClassId} {ad : Nat → Int → Nat} {oc : Nat → Nat} (hI : WI ccnt ad) (hfl : l.stackTraces = false) {N M : Int} (σ : St) (k : Int) (hv : Inv N M σ) (hk : 0 ≤ k ∧ k < σ 27 0 0) (h1 : σ 15 k 0 ≠ -1) : GW l yL_slide wsL_slide ({ frames := 8, cells := 1, slots := 6, locals := 133 } : Room) Dg cA ad oc (cE cA ad σ) [.ref (ad 0 0), .int (zi k)] (σ 15 k 0) (cE cA ad σ) := by
  intro sz
  refine w_ent (cc := cL_slide) (maxL := 3) (ret := (some .int)) (hh := [(0, 5, 6, 22), (0, 5, 10, 47)]) (by decide) rfl hI (Nat.le_of_ble_eq_true rfl) ?_
  intro pgm env s₀ m₀ bel mth cod hX htab hNc hW hS hsz ls hl
  subst hsz
  have hC := hX.1
  have hx := hC.1
  have hb := hC.2.1
  have hts := hC.2.2.2.1
  have hl : lv_has ls 3 [(0, .ref (ad 0 0)), (1, .int (zi k))] := hl
  refine lv_aload_n hx hb dL_slide_0 rfl (lv_at hl 0 rfl) ?_
  refine lv_iload_n hx hb dL_slide_1 rfl (lv_at hl 1 rfl) ?_
  refine k_callI (As := [.int (zi k)]) (rest := []) hX hl.1 (m_slide hI σ k hv hk h1) (cwV 1 hts gL_slide_X7_slide rfl rfl rfl (by decide +kernel) ⟨Nat.le_of_ble_eq_true rfl, Nat.le_of_ble_eq_true rfl⟩) (rc_KR hC hW) hW hS ⟨Nat.zero_le _, Nat.zero_le _⟩ rfl rfl (Nat.le_of_ble_eq_true rfl) dL_slide_2 (fun H locs hW hS _ _ => ?_)
  exact w_ret hX rfl hW hS (Nat.zero_le _) (Nat.zero_le _) dL_slide_5
set_option maxHeartbeats 2000000 in
set_option maxRecDepth 100000 in
theorem w_slide_n {l : Launch} {Dg : va_G} {cA : Nat → ClassId} {ad : Nat → Int → Nat} {oc : Nat → Nat} (hI : WI ccnt ad) (hfl : l.stackTraces = false) {N M : Int} (σ : St) (k : Int) (hv : Inv N M σ) (hk : 0 ≤ k ∧ k < σ 27 0 0) (h1 : σ 15 k 0 = -1) : GW l yL_slide wsL_slide ({ frames := 8, cells := 1, slots := 6, locals := 133 } : Room) Dg cA ad oc (cE cA ad σ) [.ref (ad 0 0), .int (zi k)] (-900002) (cE cA ad σ) := by
  intro sz
  refine w_ent (cc := cL_slide) (maxL := 3) (ret := (some .int)) (hh := [(0, 5, 6, 22), (0, 5, 10, 47)]) (by decide) rfl hI (Nat.le_of_ble_eq_true rfl) ?_
  intro pgm env s₀ m₀ bel mth cod hX htab hNc hW hS hsz ls hl
  subst hsz
  have hC := hX.1
  have hx := hC.1
  have hb := hC.2.1
  have hts := hC.2.2.2.1
  have hl : lv_has ls 3 [(0, .ref (ad 0 0)), (1, .int (zi k))] := hl
  refine lv_aload_n hx hb dL_slide_0 rfl (lv_at hl 0 rfl) ?_
  refine lv_iload_n hx hb dL_slide_1 rfl (lv_at hl 1 rfl) ?_
  have hl_22 := hts (.classLink RL 22 "java/lang/IndexOutOfBoundsException") (by decide +kernel)
  have hl_47 := hts (.classLink RL 47 "java/util/NoSuchElementException") (by decide +kernel)
  refine w_caught (rest := []) (As := [.int (zi k)]) (name := "java/util/NoSuchElementException") [⟨0, 5, 6, 22⟩] ⟨0, 5, 10, 47⟩ [] (tgt := 10) hX htab (List.forall_mem_cons.mpr ⟨⟨by decide, _, hl_22, hNc ("java/util/NoSuchElementException", "java/lang/IndexOutOfBoundsException") (by decide)⟩, (fun _ h => absurd h List.not_mem_nil)⟩) (by decide) (by decide) hl_47 (by decide) rfl hl.1 (m_slide_n hI hfl σ k hv hk h1) (cwV 1 hts gL_slide_X7_slide rfl rfl rfl (by decide +kernel) ⟨Nat.le_of_ble_eq_true rfl, Nat.le_of_ble_eq_true rfl⟩) (rc_KR hC hW) hW hS ⟨Nat.le_of_ble_eq_true rfl, Nat.le_of_ble_eq_true rfl⟩ rfl rfl (Nat.le_of_ble_eq_true rfl) dL_slide_2 (fun H locs q hW hS hz hk => ?_)
  refine lv_astore_n (lv' := [(2, .ref q), (0, .ref (ad 0 0)), (1, .int (zi k))]) hx hb dL_slide_10 rfl hl (by decide) rfl (fun ls hl => ?_)
  refine k_ldc (n := (-900002)) hC (by decide) (hts (.constant RL 26 (-900002)) (by decide +kernel)) dL_slide_11 ?_
  exact w_ret hX rfl hW hS (Nat.le_refl _) (Nat.le_refl _) dL_slide_13
set_option maxHeartbeats 2000000 in
set_option maxRecDepth 100000 in
theorem w_next {l : Launch} {Dg : va_G} {cA : Nat → ClassId} {ad : Nat → Int → Nat} {oc : Nat → Nat} (hI : WI ccnt ad) (hfl : l.stackTraces = false) {N M : Int} (σ : St) (k : Int) (hv : Inv N M σ) (hk : 0 ≤ k ∧ k < σ 27 0 0) (h6 : σ 6 k 0 = 1) : GW l yL_next wsL_next ({ frames := 9, cells := 1, slots := 6, locals := 154 } : Room) Dg cA ad oc (cE cA ad σ) [.ref (ad 0 0), .int (zi k)] (100 * σ 5 k 0 + σ 4 k (σ 5 k 0 - 1)) (cE cA ad σ) := by
  intro sz
  refine w_ent (cc := cL_next) (maxL := 3) (ret := (some .int)) (hh := [(0, 5, 6, 22), (0, 5, 10, 47)]) (by decide) rfl hI (Nat.le_of_ble_eq_true rfl) ?_
  intro pgm env s₀ m₀ bel mth cod hX htab hNc hW hS hsz ls hl
  subst hsz
  have hC := hX.1
  have hx := hC.1
  have hb := hC.2.1
  have hts := hC.2.2.2.1
  have hl : lv_has ls 3 [(0, .ref (ad 0 0)), (1, .int (zi k))] := hl
  refine lv_aload_n hx hb dL_next_0 rfl (lv_at hl 0 rfl) ?_
  refine lv_iload_n hx hb dL_next_1 rfl (lv_at hl 1 rfl) ?_
  refine k_callI (As := [.int (zi k)]) (rest := []) hX hl.1 (m_next hI σ k hv hk h6) (cwV 1 hts gL_next_X7_next rfl rfl rfl (by decide +kernel) ⟨Nat.le_of_ble_eq_true rfl, Nat.le_of_ble_eq_true rfl⟩) (rc_KR hC hW) hW hS ⟨Nat.zero_le _, Nat.zero_le _⟩ rfl rfl (Nat.le_of_ble_eq_true rfl) dL_next_2 (fun H locs hW hS _ _ => ?_)
  exact w_ret hX rfl hW hS (Nat.zero_le _) (Nat.zero_le _) dL_next_5
set_option maxHeartbeats 2000000 in
set_option maxRecDepth 100000 in
theorem w_next_n {l : Launch} {Dg : va_G} {cA : Nat → ClassId} {ad : Nat → Int → Nat} {oc : Nat → Nat} (hI : WI ccnt ad) (hfl : l.stackTraces = false) {N M : Int} (σ : St) (k : Int) (hv : Inv N M σ) (hk : 0 ≤ k ∧ k < σ 27 0 0) (h2 : σ 6 k 0 = 0) : GW l yL_next wsL_next ({ frames := 9, cells := 1, slots := 6, locals := 154 } : Room) Dg cA ad oc (cE cA ad σ) [.ref (ad 0 0), .int (zi k)] (-900002) (cE cA ad σ) := by
  intro sz
  refine w_ent (cc := cL_next) (maxL := 3) (ret := (some .int)) (hh := [(0, 5, 6, 22), (0, 5, 10, 47)]) (by decide) rfl hI (Nat.le_of_ble_eq_true rfl) ?_
  intro pgm env s₀ m₀ bel mth cod hX htab hNc hW hS hsz ls hl
  subst hsz
  have hC := hX.1
  have hx := hC.1
  have hb := hC.2.1
  have hts := hC.2.2.2.1
  have hl : lv_has ls 3 [(0, .ref (ad 0 0)), (1, .int (zi k))] := hl
  refine lv_aload_n hx hb dL_next_0 rfl (lv_at hl 0 rfl) ?_
  refine lv_iload_n hx hb dL_next_1 rfl (lv_at hl 1 rfl) ?_
  have hl_22 := hts (.classLink RL 22 "java/lang/IndexOutOfBoundsException") (by decide +kernel)
  have hl_47 := hts (.classLink RL 47 "java/util/NoSuchElementException") (by decide +kernel)
  refine w_caught (rest := []) (As := [.int (zi k)]) (name := "java/util/NoSuchElementException") [⟨0, 5, 6, 22⟩] ⟨0, 5, 10, 47⟩ [] (tgt := 10) hX htab (List.forall_mem_cons.mpr ⟨⟨by decide, _, hl_22, hNc ("java/util/NoSuchElementException", "java/lang/IndexOutOfBoundsException") (by decide)⟩, (fun _ h => absurd h List.not_mem_nil)⟩) (by decide) (by decide) hl_47 (by decide) rfl hl.1 (m_next_n hI hfl σ k hv hk h2) (cwV 1 hts gL_next_X7_next rfl rfl rfl (by decide +kernel) ⟨Nat.le_of_ble_eq_true rfl, Nat.le_of_ble_eq_true rfl⟩) (rc_KR hC hW) hW hS ⟨Nat.le_of_ble_eq_true rfl, Nat.le_of_ble_eq_true rfl⟩ rfl rfl (Nat.le_of_ble_eq_true rfl) dL_next_2 (fun H locs q hW hS hz hk => ?_)
  refine lv_astore_n (lv' := [(2, .ref q), (0, .ref (ad 0 0)), (1, .int (zi k))]) hx hb dL_next_10 rfl hl (by decide) rfl (fun ls hl => ?_)
  refine k_ldc (n := (-900002)) hC (by decide) (hts (.constant RL 26 (-900002)) (by decide +kernel)) dL_next_11 ?_
  exact w_ret hX rfl hW hS (Nat.le_refl _) (Nat.le_refl _) dL_next_13
set_option maxHeartbeats 2000000 in
set_option maxRecDepth 100000 in
theorem w_line {l : Launch} {Dg : va_G} {cA : Nat → ClassId} {ad : Nat → Int → Nat} {oc : Nat → Nat} (hI : WI ccnt ad) (hfl : l.stackTraces = false) {N M : Int} (σ : St) (a place k n : Int) (hv : Inv N M σ) (hl0 : 0 ≤ a ∧ a < σ 26 0 0) (hpl : 0 ≤ place ∧ place ≤ σ 3 a 0) (hkc : 0 ≤ k ∧ k < 65536) (hkm : mostN k ≠ -1) (hnn : leastN k ≤ n ∧ n ≤ mostN k) (h20 : σ 3 a 0 < 20) : GW l yL_line wsL_line ({ frames := 8, cells := 1, slots := 6, locals := 136 } : Room) Dg cA ad oc (cE cA ad σ) [.ref (ad 0 0), .int (zi a), .int (zi place), .int (zi k), .int (zi n)] (σ 3 a 0 + 1) (cE cA ad (fIns σ a place k n)) := by
  intro sz
  refine w_ent (cc := cL_line) (maxL := 6) (ret := (some .int)) (hh := [(0, 9, 10, 22), (0, 9, 15, 24), (0, 9, 20, 15)]) (by decide) rfl hI (Nat.le_of_ble_eq_true rfl) ?_
  intro pgm env s₀ m₀ bel mth cod hX htab hNc hW hS hsz ls hl
  subst hsz
  have hC := hX.1
  have hx := hC.1
  have hb := hC.2.1
  have hts := hC.2.2.2.1
  have hl : lv_has ls 6 [(0, .ref (ad 0 0)), (1, .int (zi a)), (2, .int (zi place)), (3, .int (zi k)), (4, .int (zi n))] := hl
  refine lv_aload_n hx hb dL_line_0 rfl (lv_at hl 0 rfl) ?_
  refine lv_iload_n hx hb dL_line_1 rfl (lv_at hl 1 rfl) ?_
  refine lv_iload_n hx hb dL_line_2 rfl (lv_at hl 2 rfl) ?_
  refine lv_iload_n hx hb dL_line_3 rfl (lv_at hl 3 rfl) ?_
  refine lv_iload hx hb dL_line_4 (lv_at hl 4 rfl) ?_
  refine k_callI (As := [.int (zi a), .int (zi place), .int (zi k), .int (zi n)]) (rest := []) hX hl.1 (m_line hI σ a place k n hv hl0 hpl hkc hkm hnn h20) (cwV 4 hts gL_line_X7_line rfl rfl rfl (by decide +kernel) ⟨Nat.le_of_ble_eq_true rfl, Nat.le_of_ble_eq_true rfl⟩) (rc_KR hC hW) hW hS ⟨Nat.zero_le _, Nat.zero_le _⟩ rfl rfl (Nat.le_of_ble_eq_true rfl) dL_line_6 (fun H locs hW hS _ _ => ?_)
  exact w_ret hX rfl hW hS (Nat.zero_le _) (Nat.zero_le _) dL_line_9
set_option maxHeartbeats 2000000 in
set_option maxRecDepth 100000 in
theorem w_line_y {l : Launch} {Dg : va_G} {cA : Nat → ClassId} {ad : Nat → Int → Nat} {oc : Nat → Nat} (hI : WI ccnt ad) (hfl : l.stackTraces = false) {N M : Int} (σ : St) (a place k n : Int) (hv : Inv N M σ) (hl0 : 0 ≤ a ∧ a < σ 26 0 0) (h1 : ¬ (0 ≤ place ∧ place ≤ σ 3 a 0)) (hxr : -2147483648 ≤ place ∧ place < 2147483648) : GW l yL_line wsL_line ({ frames := 8, cells := 1, slots := 6, locals := 136 } : Room) Dg cA ad oc (cE cA ad σ) [.ref (ad 0 0), .int (zi a), .int (zi place), .int (zi k), .int (zi n)] (-900001) (cE cA ad σ) := by
  intro sz
  refine w_ent (cc := cL_line) (maxL := 6) (ret := (some .int)) (hh := [(0, 9, 10, 22), (0, 9, 15, 24), (0, 9, 20, 15)]) (by decide) rfl hI (Nat.le_of_ble_eq_true rfl) ?_
  intro pgm env s₀ m₀ bel mth cod hX htab hNc hW hS hsz ls hl
  subst hsz
  have hC := hX.1
  have hx := hC.1
  have hb := hC.2.1
  have hts := hC.2.2.2.1
  have hl : lv_has ls 6 [(0, .ref (ad 0 0)), (1, .int (zi a)), (2, .int (zi place)), (3, .int (zi k)), (4, .int (zi n))] := hl
  refine lv_aload_n hx hb dL_line_0 rfl (lv_at hl 0 rfl) ?_
  refine lv_iload_n hx hb dL_line_1 rfl (lv_at hl 1 rfl) ?_
  refine lv_iload_n hx hb dL_line_2 rfl (lv_at hl 2 rfl) ?_
  refine lv_iload_n hx hb dL_line_3 rfl (lv_at hl 3 rfl) ?_
  refine lv_iload hx hb dL_line_4 (lv_at hl 4 rfl) ?_
  have hl_22 := hts (.classLink RL 22 "java/lang/IndexOutOfBoundsException") (by decide +kernel)
  refine w_caught (rest := []) (As := [.int (zi a), .int (zi place), .int (zi k), .int (zi n)]) (name := "java/lang/IndexOutOfBoundsException") [] ⟨0, 9, 10, 22⟩ [⟨0, 9, 15, 24⟩, ⟨0, 9, 20, 15⟩] (tgt := 10) hX htab (fun _ h => absurd h List.not_mem_nil) (by decide) (by decide) hl_22 (by decide) rfl hl.1 (m_line_y hI hfl σ a place k n hv hl0 h1 hxr) (cwV 4 hts gL_line_X7_line rfl rfl rfl (by decide +kernel) ⟨Nat.le_of_ble_eq_true rfl, Nat.le_of_ble_eq_true rfl⟩) (rc_KR hC hW) hW hS ⟨Nat.le_of_ble_eq_true rfl, Nat.le_of_ble_eq_true rfl⟩ rfl rfl (Nat.le_of_ble_eq_true rfl) dL_line_6 (fun H locs q hW hS hz hk => ?_)
  refine lv_astore (lv' := [(5, .ref q), (0, .ref (ad 0 0)), (1, .int (zi a)), (2, .int (zi place)), (3, .int (zi k)), (4, .int (zi n))]) hx hb dL_line_10 hl (by decide) rfl (fun ls hl => ?_)
  refine k_ldc (n := (-900001)) hC (by decide) (hts (.constant RL 17 (-900001)) (by decide +kernel)) dL_line_12 ?_
  exact w_ret hX rfl hW hS (Nat.le_refl _) (Nat.le_refl _) dL_line_14
set_option maxHeartbeats 2000000 in
set_option maxRecDepth 100000 in
theorem w_line_k {l : Launch} {Dg : va_G} {cA : Nat → ClassId} {ad : Nat → Int → Nat} {oc : Nat → Nat} (hI : WI ccnt ad) (hfl : l.stackTraces = false) {N M : Int} (σ : St) (a place k n : Int) (hv : Inv N M σ) (hl0 : 0 ≤ a ∧ a < σ 26 0 0) (hpl : 0 ≤ place ∧ place ≤ σ 3 a 0) (hkc : 0 ≤ k ∧ k < 65536) (hkm : mostN k = -1) : GW l yL_line wsL_line ({ frames := 8, cells := 1, slots := 6, locals := 136 } : Room) Dg cA ad oc (cE cA ad σ) [.ref (ad 0 0), .int (zi a), .int (zi place), .int (zi k), .int (zi n)] (-900002) (cE cA ad σ) := by
  intro sz
  refine w_ent (cc := cL_line) (maxL := 6) (ret := (some .int)) (hh := [(0, 9, 10, 22), (0, 9, 15, 24), (0, 9, 20, 15)]) (by decide) rfl hI (Nat.le_of_ble_eq_true rfl) ?_
  intro pgm env s₀ m₀ bel mth cod hX htab hNc hW hS hsz ls hl
  subst hsz
  have hC := hX.1
  have hx := hC.1
  have hb := hC.2.1
  have hts := hC.2.2.2.1
  have hl : lv_has ls 6 [(0, .ref (ad 0 0)), (1, .int (zi a)), (2, .int (zi place)), (3, .int (zi k)), (4, .int (zi n))] := hl
  refine lv_aload_n hx hb dL_line_0 rfl (lv_at hl 0 rfl) ?_
  refine lv_iload_n hx hb dL_line_1 rfl (lv_at hl 1 rfl) ?_
  refine lv_iload_n hx hb dL_line_2 rfl (lv_at hl 2 rfl) ?_
  refine lv_iload_n hx hb dL_line_3 rfl (lv_at hl 3 rfl) ?_
  refine lv_iload hx hb dL_line_4 (lv_at hl 4 rfl) ?_
  have hl_22 := hts (.classLink RL 22 "java/lang/IndexOutOfBoundsException") (by decide +kernel)
  have hl_24 := hts (.classLink RL 24 "java/lang/IllegalArgumentException") (by decide +kernel)
  refine w_caught (rest := []) (As := [.int (zi a), .int (zi place), .int (zi k), .int (zi n)]) (name := "java/lang/IllegalArgumentException") [⟨0, 9, 10, 22⟩] ⟨0, 9, 15, 24⟩ [⟨0, 9, 20, 15⟩] (tgt := 15) hX htab (List.forall_mem_cons.mpr ⟨⟨by decide, _, hl_22, hNc ("java/lang/IllegalArgumentException", "java/lang/IndexOutOfBoundsException") (by decide)⟩, (fun _ h => absurd h List.not_mem_nil)⟩) (by decide) (by decide) hl_24 (by decide) rfl hl.1 (m_line_k hI hfl σ a place k n hv hl0 hpl hkc hkm) (cwV 4 hts gL_line_X7_line rfl rfl rfl (by decide +kernel) ⟨Nat.le_of_ble_eq_true rfl, Nat.le_of_ble_eq_true rfl⟩) (rc_KR hC hW) hW hS ⟨Nat.le_of_ble_eq_true rfl, Nat.le_of_ble_eq_true rfl⟩ rfl rfl (Nat.le_of_ble_eq_true rfl) dL_line_6 (fun H locs q hW hS hz hk => ?_)
  refine lv_astore (lv' := [(5, .ref q), (0, .ref (ad 0 0)), (1, .int (zi a)), (2, .int (zi place)), (3, .int (zi k)), (4, .int (zi n))]) hx hb dL_line_15 hl (by decide) rfl (fun ls hl => ?_)
  refine k_ldc (n := (-900002)) hC (by decide) (hts (.constant RL 26 (-900002)) (by decide +kernel)) dL_line_17 ?_
  exact w_ret hX rfl hW hS (Nat.le_refl _) (Nat.le_refl _) dL_line_19
set_option maxHeartbeats 2000000 in
set_option maxRecDepth 100000 in
theorem w_line_n {l : Launch} {Dg : va_G} {cA : Nat → ClassId} {ad : Nat → Int → Nat} {oc : Nat → Nat} (hI : WI ccnt ad) (hfl : l.stackTraces = false) {N M : Int} (σ : St) (a place k n : Int) (hv : Inv N M σ) (hl0 : 0 ≤ a ∧ a < σ 26 0 0) (hpl : 0 ≤ place ∧ place ≤ σ 3 a 0) (hkc : 0 ≤ k ∧ k < 65536) (hkm : mostN k ≠ -1) (hnn : ¬ (leastN k ≤ n ∧ n ≤ mostN k)) (hxr : -2147483648 ≤ n ∧ n < 2147483648) : GW l yL_line wsL_line ({ frames := 8, cells := 1, slots := 6, locals := 136 } : Room) Dg cA ad oc (cE cA ad σ) [.ref (ad 0 0), .int (zi a), .int (zi place), .int (zi k), .int (zi n)] (-900002) (cE cA ad σ) := by
  intro sz
  refine w_ent (cc := cL_line) (maxL := 6) (ret := (some .int)) (hh := [(0, 9, 10, 22), (0, 9, 15, 24), (0, 9, 20, 15)]) (by decide) rfl hI (Nat.le_of_ble_eq_true rfl) ?_
  intro pgm env s₀ m₀ bel mth cod hX htab hNc hW hS hsz ls hl
  subst hsz
  have hC := hX.1
  have hx := hC.1
  have hb := hC.2.1
  have hts := hC.2.2.2.1
  have hl : lv_has ls 6 [(0, .ref (ad 0 0)), (1, .int (zi a)), (2, .int (zi place)), (3, .int (zi k)), (4, .int (zi n))] := hl
  refine lv_aload_n hx hb dL_line_0 rfl (lv_at hl 0 rfl) ?_
  refine lv_iload_n hx hb dL_line_1 rfl (lv_at hl 1 rfl) ?_
  refine lv_iload_n hx hb dL_line_2 rfl (lv_at hl 2 rfl) ?_
  refine lv_iload_n hx hb dL_line_3 rfl (lv_at hl 3 rfl) ?_
  refine lv_iload hx hb dL_line_4 (lv_at hl 4 rfl) ?_
  have hl_22 := hts (.classLink RL 22 "java/lang/IndexOutOfBoundsException") (by decide +kernel)
  have hl_24 := hts (.classLink RL 24 "java/lang/IllegalArgumentException") (by decide +kernel)
  refine w_caught (rest := []) (As := [.int (zi a), .int (zi place), .int (zi k), .int (zi n)]) (name := "java/lang/IllegalArgumentException") [⟨0, 9, 10, 22⟩] ⟨0, 9, 15, 24⟩ [⟨0, 9, 20, 15⟩] (tgt := 15) hX htab (List.forall_mem_cons.mpr ⟨⟨by decide, _, hl_22, hNc ("java/lang/IllegalArgumentException", "java/lang/IndexOutOfBoundsException") (by decide)⟩, (fun _ h => absurd h List.not_mem_nil)⟩) (by decide) (by decide) hl_24 (by decide) rfl hl.1 (m_line_n hI hfl σ a place k n hv hl0 hpl hkc hkm hnn hxr) (cwV 4 hts gL_line_X7_line rfl rfl rfl (by decide +kernel) ⟨Nat.le_of_ble_eq_true rfl, Nat.le_of_ble_eq_true rfl⟩) (rc_KR hC hW) hW hS ⟨Nat.le_of_ble_eq_true rfl, Nat.le_of_ble_eq_true rfl⟩ rfl rfl (Nat.le_of_ble_eq_true rfl) dL_line_6 (fun H locs q hW hS hz hk => ?_)
  refine lv_astore (lv' := [(5, .ref q), (0, .ref (ad 0 0)), (1, .int (zi a)), (2, .int (zi place)), (3, .int (zi k)), (4, .int (zi n))]) hx hb dL_line_15 hl (by decide) rfl (fun ls hl => ?_)
  refine k_ldc (n := (-900002)) hC (by decide) (hts (.constant RL 26 (-900002)) (by decide +kernel)) dL_line_17 ?_
  exact w_ret hX rfl hW hS (Nat.le_refl _) (Nat.le_refl _) dL_line_19
set_option maxHeartbeats 2000000 in
set_option maxRecDepth 100000 in
theorem w_line_s {l : Launch} {Dg : va_G} {cA : Nat → ClassId} {ad : Nat → Int → Nat} {oc : Nat → Nat} (hI : WI ccnt ad) (hfl : l.stackTraces = false) {N M : Int} (σ : St) (a place k n : Int) (hv : Inv N M σ) (hl0 : 0 ≤ a ∧ a < σ 26 0 0) (hpl : 0 ≤ place ∧ place ≤ σ 3 a 0) (hkc : 0 ≤ k ∧ k < 65536) (hkm : mostN k ≠ -1) (hnn : leastN k ≤ n ∧ n ≤ mostN k) (h20 : σ 3 a 0 = 20) : GW l yL_line wsL_line ({ frames := 8, cells := 1, slots := 6, locals := 136 } : Room) Dg cA ad oc (cE cA ad σ) [.ref (ad 0 0), .int (zi a), .int (zi place), .int (zi k), .int (zi n)] (-900003) (cE cA ad σ) := by
  intro sz
  refine w_ent (cc := cL_line) (maxL := 6) (ret := (some .int)) (hh := [(0, 9, 10, 22), (0, 9, 15, 24), (0, 9, 20, 15)]) (by decide) rfl hI (Nat.le_of_ble_eq_true rfl) ?_
  intro pgm env s₀ m₀ bel mth cod hX htab hNc hW hS hsz ls hl
  subst hsz
  have hC := hX.1
  have hx := hC.1
  have hb := hC.2.1
  have hts := hC.2.2.2.1
  have hl : lv_has ls 6 [(0, .ref (ad 0 0)), (1, .int (zi a)), (2, .int (zi place)), (3, .int (zi k)), (4, .int (zi n))] := hl
  refine lv_aload_n hx hb dL_line_0 rfl (lv_at hl 0 rfl) ?_
  refine lv_iload_n hx hb dL_line_1 rfl (lv_at hl 1 rfl) ?_
  refine lv_iload_n hx hb dL_line_2 rfl (lv_at hl 2 rfl) ?_
  refine lv_iload_n hx hb dL_line_3 rfl (lv_at hl 3 rfl) ?_
  refine lv_iload hx hb dL_line_4 (lv_at hl 4 rfl) ?_
  have hl_22 := hts (.classLink RL 22 "java/lang/IndexOutOfBoundsException") (by decide +kernel)
  have hl_24 := hts (.classLink RL 24 "java/lang/IllegalArgumentException") (by decide +kernel)
  have hl_15 := hts (.classLink RL 15 "java/lang/IllegalStateException") (by decide +kernel)
  refine w_caught (rest := []) (As := [.int (zi a), .int (zi place), .int (zi k), .int (zi n)]) (name := "java/lang/IllegalStateException") [⟨0, 9, 10, 22⟩, ⟨0, 9, 15, 24⟩] ⟨0, 9, 20, 15⟩ [] (tgt := 20) hX htab (List.forall_mem_cons.mpr ⟨⟨by decide, _, hl_22, hNc ("java/lang/IllegalStateException", "java/lang/IndexOutOfBoundsException") (by decide)⟩, (List.forall_mem_cons.mpr ⟨⟨by decide, _, hl_24, hNc ("java/lang/IllegalStateException", "java/lang/IllegalArgumentException") (by decide)⟩, (fun _ h => absurd h List.not_mem_nil)⟩)⟩) (by decide) (by decide) hl_15 (by decide) rfl hl.1 (m_line_s hI hfl σ a place k n hv hl0 hpl hkc hkm hnn h20) (cwV 4 hts gL_line_X7_line rfl rfl rfl (by decide +kernel) ⟨Nat.le_of_ble_eq_true rfl, Nat.le_of_ble_eq_true rfl⟩) (rc_KR hC hW) hW hS ⟨Nat.le_of_ble_eq_true rfl, Nat.le_of_ble_eq_true rfl⟩ rfl rfl (Nat.le_of_ble_eq_true rfl) dL_line_6 (fun H locs q hW hS hz hk => ?_)
  refine lv_astore (lv' := [(5, .ref q), (0, .ref (ad 0 0)), (1, .int (zi a)), (2, .int (zi place)), (3, .int (zi k)), (4, .int (zi n))]) hx hb dL_line_20 hl (by decide) rfl (fun ls hl => ?_)
  refine k_ldc (n := (-900003)) hC (by decide) (hts (.constant RL 27 (-900003)) (by decide +kernel)) dL_line_22 ?_
  exact w_ret hX rfl hW hS (Nat.le_refl _) (Nat.le_refl _) dL_line_24
set_option maxHeartbeats 2000000 in
set_option maxRecDepth 100000 in
theorem w_tick {l : Launch} {Dg : va_G} {cA : Nat → ClassId} {ad : Nat → Int → Nat} {oc : Nat → Nat} (hI : WI ccnt ad) (hfl : l.stackTraces = false) {N M : Int} (σ : St) (n : Int) (hv : Inv N M σ) (h1 : 1 ≤ n ∧ n ≤ 50) (hN : N ≤ 1000000) : GW l yL_tick wsL_tick ({ frames := 7, cells := 1, slots := 6, locals := 166 } : Room) Dg cA ad oc (cE cA ad σ) [.ref (ad 0 0), .int (zi n)] (fTick n.toNat (ups σ 30 0 0 0) 30 0 0) (cE cA ad (fTick n.toNat (ups σ 30 0 0 0))) := by
  intro sz
  refine w_ent (cc := cL_tick) (maxL := 3) (ret := (some .int)) (hh := [(0, 5, 6, 24)]) (by decide) rfl hI (Nat.le_of_ble_eq_true rfl) ?_
  intro pgm env s₀ m₀ bel mth cod hX htab hNc hW hS hsz ls hl
  subst hsz
  have hC := hX.1
  have hx := hC.1
  have hb := hC.2.1
  have hts := hC.2.2.2.1
  have hl : lv_has ls 3 [(0, .ref (ad 0 0)), (1, .int (zi n))] := hl
  refine lv_aload_n hx hb dL_tick_0 rfl (lv_at hl 0 rfl) ?_
  refine lv_iload_n hx hb dL_tick_1 rfl (lv_at hl 1 rfl) ?_
  refine k_callI (As := [.int (zi n)]) (rest := []) hX hl.1 (m_tick hI σ n hv h1 hN) (cwV 1 hts gL_tick_X7_tick rfl rfl rfl (by decide +kernel) ⟨Nat.le_of_ble_eq_true rfl, Nat.le_of_ble_eq_true rfl⟩) (rc_KR hC hW) hW hS ⟨Nat.zero_le _, Nat.zero_le _⟩ rfl rfl (Nat.le_of_ble_eq_true rfl) dL_tick_2 (fun H locs hW hS _ _ => ?_)
  exact w_ret hX rfl hW hS (Nat.zero_le _) (Nat.zero_le _) dL_tick_5
set_option maxHeartbeats 2000000 in
set_option maxRecDepth 100000 in
theorem w_tick_x {l : Launch} {Dg : va_G} {cA : Nat → ClassId} {ad : Nat → Int → Nat} {oc : Nat → Nat} (hI : WI ccnt ad) (hfl : l.stackTraces = false) (σ : St) (n : Int) (h1 : ¬ (1 ≤ n ∧ n ≤ 50)) (hxr : -2147483648 ≤ n ∧ n < 2147483648) : GW l yL_tick wsL_tick ({ frames := 7, cells := 1, slots := 6, locals := 166 } : Room) Dg cA ad oc (cE cA ad σ) [.ref (ad 0 0), .int (zi n)] (-900001) (cE cA ad σ) := by
  intro sz
  refine w_ent (cc := cL_tick) (maxL := 3) (ret := (some .int)) (hh := [(0, 5, 6, 24)]) (by decide) rfl hI (Nat.le_of_ble_eq_true rfl) ?_
  intro pgm env s₀ m₀ bel mth cod hX htab hNc hW hS hsz ls hl
  subst hsz
  have hC := hX.1
  have hx := hC.1
  have hb := hC.2.1
  have hts := hC.2.2.2.1
  have hl : lv_has ls 3 [(0, .ref (ad 0 0)), (1, .int (zi n))] := hl
  refine lv_aload_n hx hb dL_tick_0 rfl (lv_at hl 0 rfl) ?_
  refine lv_iload_n hx hb dL_tick_1 rfl (lv_at hl 1 rfl) ?_
  have hl_24 := hts (.classLink RL 24 "java/lang/IllegalArgumentException") (by decide +kernel)
  refine w_caught (rest := []) (As := [.int (zi n)]) (name := "java/lang/IllegalArgumentException") [] ⟨0, 5, 6, 24⟩ [] (tgt := 6) hX htab (fun _ h => absurd h List.not_mem_nil) (by decide) (by decide) hl_24 (by decide) rfl hl.1 (m_tick_x hI hfl σ n h1 hxr) (cwV 1 hts gL_tick_X7_tick rfl rfl rfl (by decide +kernel) ⟨Nat.le_of_ble_eq_true rfl, Nat.le_of_ble_eq_true rfl⟩) (rc_KR hC hW) hW hS ⟨Nat.le_of_ble_eq_true rfl, Nat.le_of_ble_eq_true rfl⟩ rfl rfl (Nat.le_of_ble_eq_true rfl) dL_tick_2 (fun H locs q hW hS hz hk => ?_)
  refine lv_astore_n (lv' := [(2, .ref q), (0, .ref (ad 0 0)), (1, .int (zi n))]) hx hb dL_tick_6 rfl hl (by decide) rfl (fun ls hl => ?_)
  refine k_ldc (n := (-900001)) hC (by decide) (hts (.constant RL 17 (-900001)) (by decide +kernel)) dL_tick_7 ?_
  exact w_ret hX rfl hW hS (Nat.le_refl _) (Nat.le_refl _) dL_tick_9
set_option maxHeartbeats 2000000 in
set_option maxRecDepth 100000 in
theorem w_plays {l : Launch} {Dg : va_G} {cA : Nat → ClassId} {ad : Nat → Int → Nat} {oc : Nat → Nat} (hI : WI ccnt ad) (hfl : l.stackTraces = false) {N M : Int} (σ : St) (k : Int) (hv : Inv N M σ) (hk : 0 ≤ k ∧ k < σ 27 0 0) (h6 : σ 6 k 0 = 1) : GW l yL_plays wsL_plays ({ frames := 9, cells := 1, slots := 6, locals := 153 } : Room) Dg cA ad oc (cE cA ad σ) [.ref (ad 0 0), .int (zi k)] (σ 8 k 0) (cE cA ad σ) := by
  intro sz
  refine w_ent (cc := cL_plays) (maxL := 3) (ret := (some .int)) (hh := [(0, 5, 6, 22), (0, 5, 10, 47)]) (by decide) rfl hI (Nat.le_of_ble_eq_true rfl) ?_
  intro pgm env s₀ m₀ bel mth cod hX htab hNc hW hS hsz ls hl
  subst hsz
  have hC := hX.1
  have hx := hC.1
  have hb := hC.2.1
  have hts := hC.2.2.2.1
  have hl : lv_has ls 3 [(0, .ref (ad 0 0)), (1, .int (zi k))] := hl
  refine lv_aload_n hx hb dL_plays_0 rfl (lv_at hl 0 rfl) ?_
  refine lv_iload_n hx hb dL_plays_1 rfl (lv_at hl 1 rfl) ?_
  refine k_callI (As := [.int (zi k)]) (rest := []) hX hl.1 (m_plays hI σ k hv hk h6) (cwV 1 hts gL_plays_X7_plays rfl rfl rfl (by decide +kernel) ⟨Nat.le_of_ble_eq_true rfl, Nat.le_of_ble_eq_true rfl⟩) (rc_KR hC hW) hW hS ⟨Nat.zero_le _, Nat.zero_le _⟩ rfl rfl (Nat.le_of_ble_eq_true rfl) dL_plays_2 (fun H locs hW hS _ _ => ?_)
  exact w_ret hX rfl hW hS (Nat.zero_le _) (Nat.zero_le _) dL_plays_5
set_option maxHeartbeats 2000000 in
set_option maxRecDepth 100000 in
theorem w_playerAt {l : Launch} {Dg : va_G} {cA : Nat → ClassId} {ad : Nat → Int → Nat} {oc : Nat → Nat} (hI : WI ccnt ad) (hfl : l.stackTraces = false) {N M : Int} (σ : St) (k j : Int) (hv : Inv N M σ) (hk : 0 ≤ k ∧ k < σ 27 0 0) (hj : 0 ≤ j ∧ j < σ 17 k 0) : GW l yL_playerAt wsL_playerAt ({ frames := 8, cells := 1, slots := 6, locals := 134 } : Room) Dg cA ad oc (cE cA ad σ) [.ref (ad 0 0), .int (zi k), .int (zi j)] (σ 16 k j) (cE cA ad σ) := by
  intro sz
  refine w_ent (cc := cL_playerAt) (maxL := 4) (ret := (some .int)) (hh := [(0, 6, 7, 22), (0, 6, 11, 47)]) (by decide) rfl hI (Nat.le_of_ble_eq_true rfl) ?_
  intro pgm env s₀ m₀ bel mth cod hX htab hNc hW hS hsz ls hl
  subst hsz
  have hC := hX.1
  have hx := hC.1
  have hb := hC.2.1
  have hts := hC.2.2.2.1
  have hl : lv_has ls 4 [(0, .ref (ad 0 0)), (1, .int (zi k)), (2, .int (zi j))] := hl
  refine lv_aload_n hx hb dL_playerAt_0 rfl (lv_at hl 0 rfl) ?_
  refine lv_iload_n hx hb dL_playerAt_1 rfl (lv_at hl 1 rfl) ?_
  refine lv_iload_n hx hb dL_playerAt_2 rfl (lv_at hl 2 rfl) ?_
  refine k_callI (As := [.int (zi k), .int (zi j)]) (rest := []) hX hl.1 (m_playerAt hI σ k j hv hk hj) (cwV 2 hts gL_playerAt_X7_playerAt rfl rfl rfl (by decide +kernel) ⟨Nat.le_of_ble_eq_true rfl, Nat.le_of_ble_eq_true rfl⟩) (rc_KR hC hW) hW hS ⟨Nat.zero_le _, Nat.zero_le _⟩ rfl rfl (Nat.le_of_ble_eq_true rfl) dL_playerAt_3 (fun H locs hW hS _ _ => ?_)
  exact w_ret hX rfl hW hS (Nat.zero_le _) (Nat.zero_le _) dL_playerAt_6
set_option maxHeartbeats 2000000 in
set_option maxRecDepth 100000 in
theorem w_playerAt_n {l : Launch} {Dg : va_G} {cA : Nat → ClassId} {ad : Nat → Int → Nat} {oc : Nat → Nat} (hI : WI ccnt ad) (hfl : l.stackTraces = false) {N M : Int} (σ : St) (k j : Int) (hv : Inv N M σ) (hk : 0 ≤ k ∧ k < σ 27 0 0) (hj : ¬ (0 ≤ j ∧ j < σ 17 k 0)) (hxr : -2147483648 ≤ j ∧ j < 2147483648) : GW l yL_playerAt wsL_playerAt ({ frames := 8, cells := 1, slots := 6, locals := 134 } : Room) Dg cA ad oc (cE cA ad σ) [.ref (ad 0 0), .int (zi k), .int (zi j)] (-900002) (cE cA ad σ) := by
  intro sz
  refine w_ent (cc := cL_playerAt) (maxL := 4) (ret := (some .int)) (hh := [(0, 6, 7, 22), (0, 6, 11, 47)]) (by decide) rfl hI (Nat.le_of_ble_eq_true rfl) ?_
  intro pgm env s₀ m₀ bel mth cod hX htab hNc hW hS hsz ls hl
  subst hsz
  have hC := hX.1
  have hx := hC.1
  have hb := hC.2.1
  have hts := hC.2.2.2.1
  have hl : lv_has ls 4 [(0, .ref (ad 0 0)), (1, .int (zi k)), (2, .int (zi j))] := hl
  refine lv_aload_n hx hb dL_playerAt_0 rfl (lv_at hl 0 rfl) ?_
  refine lv_iload_n hx hb dL_playerAt_1 rfl (lv_at hl 1 rfl) ?_
  refine lv_iload_n hx hb dL_playerAt_2 rfl (lv_at hl 2 rfl) ?_
  have hl_22 := hts (.classLink RL 22 "java/lang/IndexOutOfBoundsException") (by decide +kernel)
  have hl_47 := hts (.classLink RL 47 "java/util/NoSuchElementException") (by decide +kernel)
  refine w_caught (rest := []) (As := [.int (zi k), .int (zi j)]) (name := "java/util/NoSuchElementException") [⟨0, 6, 7, 22⟩] ⟨0, 6, 11, 47⟩ [] (tgt := 11) hX htab (List.forall_mem_cons.mpr ⟨⟨by decide, _, hl_22, hNc ("java/util/NoSuchElementException", "java/lang/IndexOutOfBoundsException") (by decide)⟩, (fun _ h => absurd h List.not_mem_nil)⟩) (by decide) (by decide) hl_47 (by decide) rfl hl.1 (m_playerAt_n hI hfl σ k j hv hk hj hxr) (cwV 2 hts gL_playerAt_X7_playerAt rfl rfl rfl (by decide +kernel) ⟨Nat.le_of_ble_eq_true rfl, Nat.le_of_ble_eq_true rfl⟩) (rc_KR hC hW) hW hS ⟨Nat.le_of_ble_eq_true rfl, Nat.le_of_ble_eq_true rfl⟩ rfl rfl (Nat.le_of_ble_eq_true rfl) dL_playerAt_3 (fun H locs q hW hS hz hk => ?_)
  refine lv_astore_n (lv' := [(3, .ref q), (0, .ref (ad 0 0)), (1, .int (zi k)), (2, .int (zi j))]) hx hb dL_playerAt_11 rfl hl (by decide) rfl (fun ls hl => ?_)
  refine k_ldc (n := (-900002)) hC (by decide) (hts (.constant RL 26 (-900002)) (by decide +kernel)) dL_playerAt_12 ?_
  exact w_ret hX rfl hW hS (Nat.le_refl _) (Nat.le_refl _) dL_playerAt_14
set_option maxHeartbeats 2000000 in
set_option maxRecDepth 100000 in
theorem w_cut {l : Launch} {Dg : va_G} {cA : Nat → ClassId} {ad : Nat → Int → Nat} {oc : Nat → Nat} (hI : WI ccnt ad) (hfl : l.stackTraces = false) {N M : Int} (σ : St) (a place : Int) (hv : Inv N M σ) (hl0 : 0 ≤ a ∧ a < σ 26 0 0) (hpl : 0 ≤ place ∧ place < σ 3 a 0) : GW l yL_cut wsL_cut ({ frames := 8, cells := 1, slots := 6, locals := 135 } : Room) Dg cA ad oc (cE cA ad σ) [.ref (ad 0 0), .int (zi a), .int (zi place)] (σ 1 a place) (cE cA ad (fRem σ a place)) := by
  intro sz
  refine w_ent (cc := cL_cut) (maxL := 4) (ret := (some .int)) (hh := [(0, 6, 7, 22)]) (by decide) rfl hI (Nat.le_of_ble_eq_true rfl) ?_
  intro pgm env s₀ m₀ bel mth cod hX htab hNc hW hS hsz ls hl
  subst hsz
  have hC := hX.1
  have hx := hC.1
  have hb := hC.2.1
  have hts := hC.2.2.2.1
  have hl : lv_has ls 4 [(0, .ref (ad 0 0)), (1, .int (zi a)), (2, .int (zi place))] := hl
  refine lv_aload_n hx hb dL_cut_0 rfl (lv_at hl 0 rfl) ?_
  refine lv_iload_n hx hb dL_cut_1 rfl (lv_at hl 1 rfl) ?_
  refine lv_iload_n hx hb dL_cut_2 rfl (lv_at hl 2 rfl) ?_
  refine k_callI (As := [.int (zi a), .int (zi place)]) (rest := []) hX hl.1 (m_cut hI σ a place hv hl0 hpl) (cwV 2 hts gL_cut_X7_cut rfl rfl rfl (by decide +kernel) ⟨Nat.le_of_ble_eq_true rfl, Nat.le_of_ble_eq_true rfl⟩) (rc_KR hC hW) hW hS ⟨Nat.zero_le _, Nat.zero_le _⟩ rfl rfl (Nat.le_of_ble_eq_true rfl) dL_cut_3 (fun H locs hW hS _ _ => ?_)
  exact w_ret hX rfl hW hS (Nat.zero_le _) (Nat.zero_le _) dL_cut_6
set_option maxHeartbeats 2000000 in
set_option maxRecDepth 100000 in
theorem w_cut_y {l : Launch} {Dg : va_G} {cA : Nat → ClassId} {ad : Nat → Int → Nat} {oc : Nat → Nat} (hI : WI ccnt ad) (hfl : l.stackTraces = false) {N M : Int} (σ : St) (a place : Int) (hv : Inv N M σ) (hl0 : 0 ≤ a ∧ a < σ 26 0 0) (h1 : ¬ (0 ≤ place ∧ place < σ 3 a 0)) (hxr : -2147483648 ≤ place ∧ place < 2147483648) : GW l yL_cut wsL_cut ({ frames := 8, cells := 1, slots := 6, locals := 135 } : Room) Dg cA ad oc (cE cA ad σ) [.ref (ad 0 0), .int (zi a), .int (zi place)] (-900001) (cE cA ad σ) := by
  intro sz
  refine w_ent (cc := cL_cut) (maxL := 4) (ret := (some .int)) (hh := [(0, 6, 7, 22)]) (by decide) rfl hI (Nat.le_of_ble_eq_true rfl) ?_
  intro pgm env s₀ m₀ bel mth cod hX htab hNc hW hS hsz ls hl
  subst hsz
  have hC := hX.1
  have hx := hC.1
  have hb := hC.2.1
  have hts := hC.2.2.2.1
  have hl : lv_has ls 4 [(0, .ref (ad 0 0)), (1, .int (zi a)), (2, .int (zi place))] := hl
  refine lv_aload_n hx hb dL_cut_0 rfl (lv_at hl 0 rfl) ?_
  refine lv_iload_n hx hb dL_cut_1 rfl (lv_at hl 1 rfl) ?_
  refine lv_iload_n hx hb dL_cut_2 rfl (lv_at hl 2 rfl) ?_
  have hl_22 := hts (.classLink RL 22 "java/lang/IndexOutOfBoundsException") (by decide +kernel)
  refine w_caught (rest := []) (As := [.int (zi a), .int (zi place)]) (name := "java/lang/IndexOutOfBoundsException") [] ⟨0, 6, 7, 22⟩ [] (tgt := 7) hX htab (fun _ h => absurd h List.not_mem_nil) (by decide) (by decide) hl_22 (by decide) rfl hl.1 (m_cut_y hI hfl σ a place hv hl0 h1 hxr) (cwV 2 hts gL_cut_X7_cut rfl rfl rfl (by decide +kernel) ⟨Nat.le_of_ble_eq_true rfl, Nat.le_of_ble_eq_true rfl⟩) (rc_KR hC hW) hW hS ⟨Nat.le_of_ble_eq_true rfl, Nat.le_of_ble_eq_true rfl⟩ rfl rfl (Nat.le_of_ble_eq_true rfl) dL_cut_3 (fun H locs q hW hS hz hk => ?_)
  refine lv_astore_n (lv' := [(3, .ref q), (0, .ref (ad 0 0)), (1, .int (zi a)), (2, .int (zi place))]) hx hb dL_cut_7 rfl hl (by decide) rfl (fun ls hl => ?_)
  refine k_ldc (n := (-900001)) hC (by decide) (hts (.constant RL 17 (-900001)) (by decide +kernel)) dL_cut_8 ?_
  exact w_ret hX rfl hW hS (Nat.le_refl _) (Nat.le_refl _) dL_cut_10
set_option maxHeartbeats 2000000 in
set_option maxRecDepth 100000 in
theorem w_lines {l : Launch} {Dg : va_G} {cA : Nat → ClassId} {ad : Nat → Int → Nat} {oc : Nat → Nat} (hI : WI ccnt ad) (hfl : l.stackTraces = false) {N M : Int} (σ : St) (a k : Int) (hv : Inv N M σ) (hl0 : 0 ≤ a ∧ a < σ 26 0 0) (hkc : 0 ≤ k ∧ k < 65536) (hkm : mostN k ≠ -1) : GW l yL_lines wsL_lines ({ frames := 8, cells := 1, slots := 6, locals := 133 } : Room) Dg cA ad oc (cE cA ad σ) [.ref (ad 0 0), .int (zi a), .int (zi k)] (cN (fun j => decide (σ 1 a j = k)) (σ 3 a 0)) (cE cA ad σ) := by
  intro sz
  refine w_ent (cc := cL_lines) (maxL := 4) (ret := (some .int)) (hh := [(0, 6, 7, 22), (0, 6, 11, 24)]) (by decide) rfl hI (Nat.le_of_ble_eq_true rfl) ?_
  intro pgm env s₀ m₀ bel mth cod hX htab hNc hW hS hsz ls hl
  subst hsz
  have hC := hX.1
  have hx := hC.1
  have hb := hC.2.1
  have hts := hC.2.2.2.1
  have hl : lv_has ls 4 [(0, .ref (ad 0 0)), (1, .int (zi a)), (2, .int (zi k))] := hl
  refine lv_aload_n hx hb dL_lines_0 rfl (lv_at hl 0 rfl) ?_
  refine lv_iload_n hx hb dL_lines_1 rfl (lv_at hl 1 rfl) ?_
  refine lv_iload_n hx hb dL_lines_2 rfl (lv_at hl 2 rfl) ?_
  refine k_callI (As := [.int (zi a), .int (zi k)]) (rest := []) hX hl.1 (m_lines hI σ a k hv hl0 hkc hkm) (cwV 2 hts gL_lines_X7_lines rfl rfl rfl (by decide +kernel) ⟨Nat.le_of_ble_eq_true rfl, Nat.le_of_ble_eq_true rfl⟩) (rc_KR hC hW) hW hS ⟨Nat.zero_le _, Nat.zero_le _⟩ rfl rfl (Nat.le_of_ble_eq_true rfl) dL_lines_3 (fun H locs hW hS _ _ => ?_)
  exact w_ret hX rfl hW hS (Nat.zero_le _) (Nat.zero_le _) dL_lines_6
set_option maxHeartbeats 2000000 in
set_option maxRecDepth 100000 in
theorem w_lines_x {l : Launch} {Dg : va_G} {cA : Nat → ClassId} {ad : Nat → Int → Nat} {oc : Nat → Nat} (hI : WI ccnt ad) (hfl : l.stackTraces = false) {N M : Int} (σ : St) (a k : Int) (hv : Inv N M σ) (h1 : ¬ (0 ≤ a ∧ a < σ 26 0 0)) (hxr : -2147483648 ≤ a ∧ a < 2147483648) : GW l yL_lines wsL_lines ({ frames := 8, cells := 1, slots := 6, locals := 133 } : Room) Dg cA ad oc (cE cA ad σ) [.ref (ad 0 0), .int (zi a), .int (zi k)] (-900001) (cE cA ad σ) := by
  intro sz
  refine w_ent (cc := cL_lines) (maxL := 4) (ret := (some .int)) (hh := [(0, 6, 7, 22), (0, 6, 11, 24)]) (by decide) rfl hI (Nat.le_of_ble_eq_true rfl) ?_
  intro pgm env s₀ m₀ bel mth cod hX htab hNc hW hS hsz ls hl
  subst hsz
  have hC := hX.1
  have hx := hC.1
  have hb := hC.2.1
  have hts := hC.2.2.2.1
  have hl : lv_has ls 4 [(0, .ref (ad 0 0)), (1, .int (zi a)), (2, .int (zi k))] := hl
  refine lv_aload_n hx hb dL_lines_0 rfl (lv_at hl 0 rfl) ?_
  refine lv_iload_n hx hb dL_lines_1 rfl (lv_at hl 1 rfl) ?_
  refine lv_iload_n hx hb dL_lines_2 rfl (lv_at hl 2 rfl) ?_
  have hl_22 := hts (.classLink RL 22 "java/lang/IndexOutOfBoundsException") (by decide +kernel)
  refine w_caught (rest := []) (As := [.int (zi a), .int (zi k)]) (name := "java/lang/IndexOutOfBoundsException") [] ⟨0, 6, 7, 22⟩ [⟨0, 6, 11, 24⟩] (tgt := 7) hX htab (fun _ h => absurd h List.not_mem_nil) (by decide) (by decide) hl_22 (by decide) rfl hl.1 (m_lines_x hI hfl σ a k hv h1 hxr) (cwV 2 hts gL_lines_X7_lines rfl rfl rfl (by decide +kernel) ⟨Nat.le_of_ble_eq_true rfl, Nat.le_of_ble_eq_true rfl⟩) (rc_KR hC hW) hW hS ⟨Nat.le_of_ble_eq_true rfl, Nat.le_of_ble_eq_true rfl⟩ rfl rfl (Nat.le_of_ble_eq_true rfl) dL_lines_3 (fun H locs q hW hS hz hk => ?_)
  refine lv_astore_n (lv' := [(3, .ref q), (0, .ref (ad 0 0)), (1, .int (zi a)), (2, .int (zi k))]) hx hb dL_lines_7 rfl hl (by decide) rfl (fun ls hl => ?_)
  refine k_ldc (n := (-900001)) hC (by decide) (hts (.constant RL 17 (-900001)) (by decide +kernel)) dL_lines_8 ?_
  exact w_ret hX rfl hW hS (Nat.le_refl _) (Nat.le_refl _) dL_lines_10
set_option maxHeartbeats 2000000 in
set_option maxRecDepth 100000 in
theorem w_lines_k {l : Launch} {Dg : va_G} {cA : Nat → ClassId} {ad : Nat → Int → Nat} {oc : Nat → Nat} (hI : WI ccnt ad) (hfl : l.stackTraces = false) {N M : Int} (σ : St) (a k : Int) (hv : Inv N M σ) (hl0 : 0 ≤ a ∧ a < σ 26 0 0) (hkc : 0 ≤ k ∧ k < 65536) (hkm : mostN k = -1) : GW l yL_lines wsL_lines ({ frames := 8, cells := 1, slots := 6, locals := 133 } : Room) Dg cA ad oc (cE cA ad σ) [.ref (ad 0 0), .int (zi a), .int (zi k)] (-900002) (cE cA ad σ) := by
  intro sz
  refine w_ent (cc := cL_lines) (maxL := 4) (ret := (some .int)) (hh := [(0, 6, 7, 22), (0, 6, 11, 24)]) (by decide) rfl hI (Nat.le_of_ble_eq_true rfl) ?_
  intro pgm env s₀ m₀ bel mth cod hX htab hNc hW hS hsz ls hl
  subst hsz
  have hC := hX.1
  have hx := hC.1
  have hb := hC.2.1
  have hts := hC.2.2.2.1
  have hl : lv_has ls 4 [(0, .ref (ad 0 0)), (1, .int (zi a)), (2, .int (zi k))] := hl
  refine lv_aload_n hx hb dL_lines_0 rfl (lv_at hl 0 rfl) ?_
  refine lv_iload_n hx hb dL_lines_1 rfl (lv_at hl 1 rfl) ?_
  refine lv_iload_n hx hb dL_lines_2 rfl (lv_at hl 2 rfl) ?_
  have hl_22 := hts (.classLink RL 22 "java/lang/IndexOutOfBoundsException") (by decide +kernel)
  have hl_24 := hts (.classLink RL 24 "java/lang/IllegalArgumentException") (by decide +kernel)
  refine w_caught (rest := []) (As := [.int (zi a), .int (zi k)]) (name := "java/lang/IllegalArgumentException") [⟨0, 6, 7, 22⟩] ⟨0, 6, 11, 24⟩ [] (tgt := 11) hX htab (List.forall_mem_cons.mpr ⟨⟨by decide, _, hl_22, hNc ("java/lang/IllegalArgumentException", "java/lang/IndexOutOfBoundsException") (by decide)⟩, (fun _ h => absurd h List.not_mem_nil)⟩) (by decide) (by decide) hl_24 (by decide) rfl hl.1 (m_lines_k hI hfl σ a k hv hl0 hkc hkm) (cwV 2 hts gL_lines_X7_lines rfl rfl rfl (by decide +kernel) ⟨Nat.le_of_ble_eq_true rfl, Nat.le_of_ble_eq_true rfl⟩) (rc_KR hC hW) hW hS ⟨Nat.le_of_ble_eq_true rfl, Nat.le_of_ble_eq_true rfl⟩ rfl rfl (Nat.le_of_ble_eq_true rfl) dL_lines_3 (fun H locs q hW hS hz hk => ?_)
  refine lv_astore_n (lv' := [(3, .ref q), (0, .ref (ad 0 0)), (1, .int (zi a)), (2, .int (zi k))]) hx hb dL_lines_11 rfl hl (by decide) rfl (fun ls hl => ?_)
  refine k_ldc (n := (-900002)) hC (by decide) (hts (.constant RL 26 (-900002)) (by decide +kernel)) dL_lines_12 ?_
  exact w_ret hX rfl hW hS (Nat.le_refl _) (Nat.le_refl _) dL_lines_14
set_option maxHeartbeats 2000000 in
set_option maxRecDepth 100000 in
theorem w_count {l : Launch} {Dg : va_G} {cA : Nat → ClassId} {ad : Nat → Int → Nat} {oc : Nat → Nat} (hI : WI ccnt ad) (hfl : l.stackTraces = false) {N M : Int} (σ : St) (k : Int) (hv : Inv N M σ) (hk : 0 ≤ k ∧ k < σ 27 0 0) (h6 : σ 6 k 0 = 1) : GW l yL_count wsL_count ({ frames := 9, cells := 1, slots := 6, locals := 153 } : Room) Dg cA ad oc (cE cA ad σ) [.ref (ad 0 0), .int (zi k)] (σ 9 k 0) (cE cA ad σ) := by
  intro sz
  refine w_ent (cc := cL_count) (maxL := 3) (ret := (some .int)) (hh := [(0, 5, 6, 22), (0, 5, 10, 47)]) (by decide) rfl hI (Nat.le_of_ble_eq_true rfl) ?_
  intro pgm env s₀ m₀ bel mth cod hX htab hNc hW hS hsz ls hl
  subst hsz
  have hC := hX.1
  have hx := hC.1
  have hb := hC.2.1
  have hts := hC.2.2.2.1
  have hl : lv_has ls 3 [(0, .ref (ad 0 0)), (1, .int (zi k))] := hl
  refine lv_aload_n hx hb dL_count_0 rfl (lv_at hl 0 rfl) ?_
  refine lv_iload_n hx hb dL_count_1 rfl (lv_at hl 1 rfl) ?_
  refine k_callI (As := [.int (zi k)]) (rest := []) hX hl.1 (m_count hI σ k hv hk h6) (cwV 1 hts gL_count_X7_count rfl rfl rfl (by decide +kernel) ⟨Nat.le_of_ble_eq_true rfl, Nat.le_of_ble_eq_true rfl⟩) (rc_KR hC hW) hW hS ⟨Nat.zero_le _, Nat.zero_le _⟩ rfl rfl (Nat.le_of_ble_eq_true rfl) dL_count_2 (fun H locs hW hS _ _ => ?_)
  exact w_ret hX rfl hW hS (Nat.zero_le _) (Nat.zero_le _) dL_count_5
set_option maxHeartbeats 2000000 in
set_option maxRecDepth 100000 in
theorem w_waits {l : Launch} {Dg : va_G} {cA : Nat → ClassId} {ad : Nat → Int → Nat} {oc : Nat → Nat} (hI : WI ccnt ad) (hfl : l.stackTraces = false) {N M : Int} (σ : St) (k : Int) (hv : Inv N M σ) (hk : 0 ≤ k ∧ k < σ 27 0 0) (h6 : σ 6 k 0 = 1) : GW l yL_waits wsL_waits ({ frames := 9, cells := 1, slots := 6, locals := 154 } : Room) Dg cA ad oc (cE cA ad σ) [.ref (ad 0 0), .int (zi k)] (if σ 11 k 0 ≠ -1 then 100 else σ 10 k 0) (cE cA ad σ) := by
  intro sz
  refine w_ent (cc := cL_waits) (maxL := 3) (ret := (some .int)) (hh := [(0, 5, 6, 22), (0, 5, 10, 47)]) (by decide) rfl hI (Nat.le_of_ble_eq_true rfl) ?_
  intro pgm env s₀ m₀ bel mth cod hX htab hNc hW hS hsz ls hl
  subst hsz
  have hC := hX.1
  have hx := hC.1
  have hb := hC.2.1
  have hts := hC.2.2.2.1
  have hl : lv_has ls 3 [(0, .ref (ad 0 0)), (1, .int (zi k))] := hl
  refine lv_aload_n hx hb dL_waits_0 rfl (lv_at hl 0 rfl) ?_
  refine lv_iload_n hx hb dL_waits_1 rfl (lv_at hl 1 rfl) ?_
  refine k_callI (As := [.int (zi k)]) (rest := []) hX hl.1 (m_waits hI σ k hv hk h6) (cwV 1 hts gL_waits_X7_waits rfl rfl rfl (by decide +kernel) ⟨Nat.le_of_ble_eq_true rfl, Nat.le_of_ble_eq_true rfl⟩) (rc_KR hC hW) hW hS ⟨Nat.zero_le _, Nat.zero_le _⟩ rfl rfl (Nat.le_of_ble_eq_true rfl) dL_waits_2 (fun H locs hW hS _ _ => ?_)
  exact w_ret hX rfl hW hS (Nat.zero_le _) (Nat.zero_le _) dL_waits_5
end W31
