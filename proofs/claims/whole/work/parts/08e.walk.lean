section M13A
set_option maxHeartbeats 2000000 in
set_option maxRecDepth 100000 in
theorem q_list {l : Launch} {Dg : va_G} {cA : Nat → ClassId} {ad : Nat → Int → Nat} {oc : Nat → Nat} (hI : WI mcnt ad) {N M : Int} {τ : St} (σ : St) (hτ : τ = ups σ 31 0 0 0) (hs : Inv N M σ) (hN : N ≤ 1000000) (hM : 0 ≤ M ∧ M ≤ 1000000) : GI l yX8_list wsX8_list ({ frames := 1, cells := 0, slots := 0, locals := 22 } : Room) Dg cA mcnt ad oc (mE cA ad σ) [.ref (ad 0 0)] (bi (cd_list τ) (τ 26 0 0) 0) (mE cA ad (stp (cd_list τ) (ups τ 26 0 0 (τ 26 0 0 + 1)) τ)) := by
  have hv : Inv N M τ := by rw [hτ]; exact Inv_o31 hs
  have et : ∀ (t : Nat) (i j : Int), t ≠ 31 → τ t i j = σ t i j := fun t i j h => by rw [hτ, ups_t _ h]
  have hA := hv.A
  unfold IvA at hA
  have e1 := et 26 0 0 (by decide)
  by_cases c0 : τ 26 0 0 < 8
  · have e : cd_list τ = 0 := by unfold cd_list; rw [if_pos c0]
    rw [e, stp_0, bi_0]
    exact n_list hI σ hτ (by omega)
  · have e : cd_list τ = 1 := by unfold cd_list; rw [if_neg c0]
    rw [e, stp_1 (by decide), bi_1 (by decide), hτ, ups_ups]
    exact n_list_s hI σ (by omega)
set_option maxHeartbeats 2000000 in
set_option maxRecDepth 100000 in
theorem q_line {l : Launch} {Dg : va_G} {cA : Nat → ClassId} {ad : Nat → Int → Nat} {oc : Nat → Nat} (hI : WI mcnt ad) {N M : Int} {τ : St} (σ : St) (a place k n : Int) (hτ : τ = ups σ 31 0 0 0) (hs : Inv N M σ) (hN : N ≤ 1000000) (hM : 0 ≤ M ∧ M ≤ 1000000) (hr_a : -2147483648 ≤ a ∧ a < 2147483648) (hr_place : -2147483648 ≤ place ∧ place < 2147483648) (hr_k : 0 ≤ k ∧ k < 65536) (hr_n : -2147483648 ≤ n ∧ n < 2147483648) : GI l yX8_line wsX8_line ({ frames := 2, cells := 0, slots := 0, locals := 45 } : Room) Dg cA mcnt ad oc (mE cA ad σ) [.ref (ad 0 0), .int (zi a), .int (zi place), .int (zi k), .int (zi n)] (bi (cd_line τ a place k n) (τ 3 a 0 + 1) 0) (mE cA ad (stp (cd_line τ a place k n) (fIns τ a place k n) τ)) := by
  have hv : Inv N M τ := by rw [hτ]; exact Inv_o31 hs
  have et : ∀ (t : Nat) (i j : Int), t ≠ 31 → τ t i j = σ t i j := fun t i j h => by rw [hτ, ups_t _ h]
  have hA := hv.A
  unfold IvA at hA
  have e1 := et 26 0 0 (by decide)
  have e2 := et 3 a 0 (by decide)
  by_cases c0 : 0 ≤ a ∧ a < τ 26 0 0
  · have r1 := (hv.R a (by omega) (by omega)).1
    by_cases c1 : 0 ≤ place ∧ place ≤ τ 3 a 0
    · by_cases c2 : mostN k ≠ -1
      · by_cases c3 : leastN k ≤ n ∧ n ≤ mostN k
        · by_cases c4 : τ 3 a 0 < 20
          · have e : cd_line τ a place k n = 0 := by unfold cd_line; rw [if_pos c0, if_pos c1, if_pos c2, if_pos c3, if_pos c4]
            rw [e, stp_0, bi_0]
            exact n_line hI σ a place k n hτ hv (by omega) (by omega) (by omega) (by omega) (by omega) (by omega)
          · have e : cd_line τ a place k n = 3 := by unfold cd_line; rw [if_pos c0, if_pos c1, if_pos c2, if_pos c3, if_neg c4]
            rw [e, stp_1 (by decide), bi_1 (by decide), hτ, ups_ups]
            exact n_line_s hI σ a place k n hs (by omega) (by omega) (by omega) (by omega) (by omega) (by omega)
        · have e : cd_line τ a place k n = 2 := by unfold cd_line; rw [if_pos c0, if_pos c1, if_pos c2, if_neg c3]
          rw [e, stp_1 (by decide), bi_1 (by decide), hτ, ups_ups]
          exact n_line_n hI σ a place k n hs (by omega) (by omega) (by omega) (by omega) (by omega) (by omega)
      · have e : cd_line τ a place k n = 2 := by unfold cd_line; rw [if_pos c0, if_pos c1, if_neg c2]
        rw [e, stp_1 (by decide), bi_1 (by decide), hτ, ups_ups]
        exact n_line_k hI σ a place k n hs (by omega) (by omega) (by omega) (by omega)
    · have e : cd_line τ a place k n = 1 := by unfold cd_line; rw [if_pos c0, if_neg c1]
      rw [e, stp_1 (by decide), bi_1 (by decide), hτ, ups_ups]
      exact n_line_y hI σ a place k n hs (by omega) (by omega) (by omega)
  · have e : cd_line τ a place k n = 1 := by unfold cd_line; rw [if_neg c0]
    rw [e, stp_1 (by decide), bi_1 (by decide), hτ, ups_ups]
    exact n_line_x hI σ a place k n hs (by omega) (by omega)
set_option maxHeartbeats 2000000 in
set_option maxRecDepth 100000 in
theorem q_cut {l : Launch} {Dg : va_G} {cA : Nat → ClassId} {ad : Nat → Int → Nat} {oc : Nat → Nat} (hI : WI mcnt ad) {N M : Int} {τ : St} (σ : St) (a place : Int) (hτ : τ = ups σ 31 0 0 0) (hs : Inv N M σ) (hN : N ≤ 1000000) (hM : 0 ≤ M ∧ M ≤ 1000000) (hr_a : -2147483648 ≤ a ∧ a < 2147483648) (hr_place : -2147483648 ≤ place ∧ place < 2147483648) : GI l yX8_cut wsX8_cut ({ frames := 2, cells := 0, slots := 0, locals := 43 } : Room) Dg cA mcnt ad oc (mE cA ad σ) [.ref (ad 0 0), .int (zi a), .int (zi place)] (bi (cd_cut τ a place) (τ 1 a place) 45) (mE cA ad (stp (cd_cut τ a place) (fRem τ a place) τ)) := by
  have hv : Inv N M τ := by rw [hτ]; exact Inv_o31 hs
  have et : ∀ (t : Nat) (i j : Int), t ≠ 31 → τ t i j = σ t i j := fun t i j h => by rw [hτ, ups_t _ h]
  have hA := hv.A
  unfold IvA at hA
  have e1 := et 26 0 0 (by decide)
  have e2 := et 3 a 0 (by decide)
  by_cases c0 : 0 ≤ a ∧ a < τ 26 0 0
  · by_cases c1 : 0 ≤ place ∧ place < τ 3 a 0
    · have e : cd_cut τ a place = 0 := by unfold cd_cut; rw [if_pos c0, if_pos c1]
      rw [e, stp_0, bi_0]
      exact n_cut hI σ a place hτ hv (by omega) (by omega)
    · have e : cd_cut τ a place = 1 := by unfold cd_cut; rw [if_pos c0, if_neg c1]
      rw [e, stp_1 (by decide), bi_1 (by decide), hτ, ups_ups]
      exact n_cut_y hI σ a place hs (by omega) (by omega) (by omega)
  · have e : cd_cut τ a place = 1 := by unfold cd_cut; rw [if_neg c0]
    rw [e, stp_1 (by decide), bi_1 (by decide), hτ, ups_ups]
    exact n_cut_x hI σ a place hs (by omega) (by omega)
set_option maxHeartbeats 2000000 in
set_option maxRecDepth 100000 in
theorem q_lines {l : Launch} {Dg : va_G} {cA : Nat → ClassId} {ad : Nat → Int → Nat} {oc : Nat → Nat} (hI : WI mcnt ad) {N M : Int} {τ : St} (σ : St) (a k : Int) (hτ : τ = ups σ 31 0 0 0) (hs : Inv N M σ) (hN : N ≤ 1000000) (hM : 0 ≤ M ∧ M ≤ 1000000) (hr_a : -2147483648 ≤ a ∧ a < 2147483648) (hr_k : 0 ≤ k ∧ k < 65536) : GI l yX8_lines wsX8_lines ({ frames := 2, cells := 0, slots := 0, locals := 43 } : Room) Dg cA mcnt ad oc (mE cA ad σ) [.ref (ad 0 0), .int (zi a), .int (zi k)] (bi (cd_lines τ a k) (cN (fun j => decide (τ 1 a j = k)) (τ 3 a 0)) 0) (mE cA ad (stp (cd_lines τ a k) τ τ)) := by
  have hv : Inv N M τ := by rw [hτ]; exact Inv_o31 hs
  have et : ∀ (t : Nat) (i j : Int), t ≠ 31 → τ t i j = σ t i j := fun t i j h => by rw [hτ, ups_t _ h]
  have hA := hv.A
  unfold IvA at hA
  have e1 := et 26 0 0 (by decide)
  by_cases c0 : 0 ≤ a ∧ a < τ 26 0 0
  · by_cases c1 : mostN k ≠ -1
    · have e : cd_lines τ a k = 0 := by unfold cd_lines; rw [if_pos c0, if_pos c1]
      rw [e, stp_0, bi_0]
      exact n_lines hI σ a k hτ hv (by omega) (by omega) (by omega)
    · have e : cd_lines τ a k = 2 := by unfold cd_lines; rw [if_pos c0, if_neg c1]
      rw [e, stp_1 (by decide), bi_1 (by decide), hτ, ups_ups]
      exact n_lines_k hI σ a k hs (by omega) (by omega) (by omega)
  · have e : cd_lines τ a k = 1 := by unfold cd_lines; rw [if_neg c0]
    rw [e, stp_1 (by decide), bi_1 (by decide), hτ, ups_ups]
    exact n_lines_x hI σ a k hs (by omega) (by omega)
set_option maxHeartbeats 2000000 in
set_option maxRecDepth 100000 in
theorem q_kiosk {l : Launch} {Dg : va_G} {cA : Nat → ClassId} {ad : Nat → Int → Nat} {oc : Nat → Nat} (hI : WI mcnt ad) {N M : Int} {τ : St} (σ : St) (hτ : τ = ups σ 31 0 0 0) (hs : Inv N M σ) (hN : N ≤ 1000000) (hM : 0 ≤ M ∧ M ≤ 1000000) : GI l yX8_kiosk wsX8_kiosk ({ frames := 1, cells := 0, slots := 0, locals := 22 } : Room) Dg cA mcnt ad oc (mE cA ad σ) [.ref (ad 0 0)] (bi (cd_kiosk τ) (τ 27 0 0) 0) (mE cA ad (stp (cd_kiosk τ) (ups τ 27 0 0 (τ 27 0 0 + 1)) τ)) := by
  have hv : Inv N M τ := by rw [hτ]; exact Inv_o31 hs
  have et : ∀ (t : Nat) (i j : Int), t ≠ 31 → τ t i j = σ t i j := fun t i j h => by rw [hτ, ups_t _ h]
  have hA := hv.A
  unfold IvA at hA
  have e1 := et 27 0 0 (by decide)
  by_cases c0 : τ 27 0 0 < 6
  · have e : cd_kiosk τ = 0 := by unfold cd_kiosk; rw [if_pos c0]
    rw [e, stp_0, bi_0]
    exact n_kiosk hI σ hτ (by omega)
  · have e : cd_kiosk τ = 1 := by unfold cd_kiosk; rw [if_neg c0]
    rw [e, stp_1 (by decide), bi_1 (by decide), hτ, ups_ups]
    exact n_kiosk_s hI σ (by omega)
set_option maxHeartbeats 2000000 in
set_option maxRecDepth 100000 in
theorem q_start {l : Launch} {Dg : va_G} {cA : Nat → ClassId} {ad : Nat → Int → Nat} {oc : Nat → Nat} (hI : WI mcnt ad) {N M : Int} {τ : St} (σ : St) (k r : Int) (hτ : τ = ups σ 31 0 0 0) (hs : Inv N M σ) (hN : N ≤ 1000000) (hM : 0 ≤ M ∧ M ≤ 1000000) (hr_k : -2147483648 ≤ k ∧ k < 2147483648) (hr_r : -2147483648 ≤ r ∧ r < 2147483648) : GI l yX8_start wsX8_start ({ frames := 2, cells := 0, slots := 0, locals := 44 } : Room) Dg cA mcnt ad oc (mE cA ad σ) [.ref (ad 0 0), .int (zi k), .int (zi r)] (bi (cd_start τ k r) (fStart τ k r 8 k 0) 0) (mE cA ad (stp (cd_start τ k r) (fStart τ k r) τ)) := by
  have hv : Inv N M τ := by rw [hτ]; exact Inv_o31 hs
  have et : ∀ (t : Nat) (i j : Int), t ≠ 31 → τ t i j = σ t i j := fun t i j h => by rw [hτ, ups_t _ h]
  have hA := hv.A
  unfold IvA at hA
  have e1 := et 27 0 0 (by decide)
  have e2 := et 26 0 0 (by decide)
  have e3 := et 6 k 0 (by decide)
  by_cases c0 : 0 ≤ k ∧ k < τ 27 0 0
  · have hS := (hv.S k (by omega) (by omega)).1
    by_cases c1 : 0 ≤ r ∧ r < τ 26 0 0
    · by_cases c2 : τ 6 k 0 = 0
      · have e : cd_start τ k r = 0 := by unfold cd_start; rw [if_pos c0, if_pos c1, if_pos c2]
        rw [e, stp_0, bi_0]
        exact n_start hI σ k r hτ hv (by omega) (by omega) (by omega)
      · have e : cd_start τ k r = 2 := by unfold cd_start; rw [if_pos c0, if_pos c1, if_neg c2]
        rw [e, stp_1 (by decide), bi_1 (by decide), hτ, ups_ups]
        exact n_start_s hI σ k r hs (by omega) (by omega) (by omega)
    · have e : cd_start τ k r = 1 := by unfold cd_start; rw [if_pos c0, if_neg c1]
      rw [e, stp_1 (by decide), bi_1 (by decide), hτ, ups_ups]
      exact n_start_y hI σ k r hs (by omega) (by omega) (by omega)
  · have e : cd_start τ k r = 1 := by unfold cd_start; rw [if_neg c0]
    rw [e, stp_1 (by decide), bi_1 (by decide), hτ, ups_ups]
    exact n_start_x hI σ k r hs (by omega) (by omega)
set_option maxHeartbeats 2000000 in
set_option maxRecDepth 100000 in
theorem q_stop {l : Launch} {Dg : va_G} {cA : Nat → ClassId} {ad : Nat → Int → Nat} {oc : Nat → Nat} (hI : WI mcnt ad) {N M : Int} {τ : St} (σ : St) (k : Int) (hτ : τ = ups σ 31 0 0 0) (hs : Inv N M σ) (hN : N ≤ 1000000) (hM : 0 ≤ M ∧ M ≤ 1000000) (hr_k : -2147483648 ≤ k ∧ k < 2147483648) : GI l yX8_stop wsX8_stop ({ frames := 3, cells := 0, slots := 0, locals := 64 } : Room) Dg cA mcnt ad oc (mE cA ad σ) [.ref (ad 0 0), .int (zi k)] (bi (cd_stop τ k) (held τ k) 0) (mE cA ad (stp (cd_stop τ k) (fStop τ k) τ)) := by
  have hv : Inv N M τ := by rw [hτ]; exact Inv_o31 hs
  have et : ∀ (t : Nat) (i j : Int), t ≠ 31 → τ t i j = σ t i j := fun t i j h => by rw [hτ, ups_t _ h]
  have hA := hv.A
  unfold IvA at hA
  have e1 := et 27 0 0 (by decide)
  have e2 := et 6 k 0 (by decide)
  by_cases c0 : 0 ≤ k ∧ k < τ 27 0 0
  · have hS := (hv.S k (by omega) (by omega)).1
    by_cases c1 : τ 6 k 0 = 1
    · have e : cd_stop τ k = 0 := by unfold cd_stop; rw [if_pos c0, if_pos c1]
      rw [e, stp_0, bi_0]
      exact n_stop hI σ k hτ hv (by omega) (by omega)
    · have e : cd_stop τ k = 2 := by unfold cd_stop; rw [if_pos c0, if_neg c1]
      rw [e, stp_1 (by decide), bi_1 (by decide), hτ, ups_ups]
      exact n_stop_n hI σ k hs (by omega) (by omega)
  · have e : cd_stop τ k = 1 := by unfold cd_stop; rw [if_neg c0]
    rw [e, stp_1 (by decide), bi_1 (by decide), hτ, ups_ups]
    exact n_stop_x hI σ k hs (by omega) (by omega)
set_option maxHeartbeats 2000000 in
set_option maxRecDepth 100000 in
theorem q_freeze {l : Launch} {Dg : va_G} {cA : Nat → ClassId} {ad : Nat → Int → Nat} {oc : Nat → Nat} (hI : WI mcnt ad) {N M : Int} {τ : St} (σ : St) (k : Int) (hτ : τ = ups σ 31 0 0 0) (hs : Inv N M σ) (hN : N ≤ 1000000) (hM : 0 ≤ M ∧ M ≤ 1000000) (hr_k : -2147483648 ≤ k ∧ k < 2147483648) : GI l yX8_freeze wsX8_freeze ({ frames := 2, cells := 0, slots := 0, locals := 43 } : Room) Dg cA mcnt ad oc (mE cA ad σ) [.ref (ad 0 0), .int (zi k)] (bi (cd_freeze τ k) (if τ 12 k 0 = 0 then 1 else 0) 0) (mE cA ad (stp (cd_freeze τ k) (ups τ 12 k 0 1) τ)) := by
  have hv : Inv N M τ := by rw [hτ]; exact Inv_o31 hs
  have et : ∀ (t : Nat) (i j : Int), t ≠ 31 → τ t i j = σ t i j := fun t i j h => by rw [hτ, ups_t _ h]
  have hA := hv.A
  unfold IvA at hA
  have e1 := et 27 0 0 (by decide)
  by_cases c0 : 0 ≤ k ∧ k < τ 27 0 0
  · have e : cd_freeze τ k = 0 := by unfold cd_freeze; rw [if_pos c0]
    rw [e, stp_0, bi_0]
    exact n_freeze hI σ k hτ hv (by omega)
  · have e : cd_freeze τ k = 1 := by unfold cd_freeze; rw [if_neg c0]
    rw [e, stp_1 (by decide), bi_1 (by decide), hτ, ups_ups]
    exact n_freeze_x hI σ k hs (by omega) (by omega)
set_option maxHeartbeats 2000000 in
set_option maxRecDepth 100000 in
theorem q_thaw {l : Launch} {Dg : va_G} {cA : Nat → ClassId} {ad : Nat → Int → Nat} {oc : Nat → Nat} (hI : WI mcnt ad) {N M : Int} {τ : St} (σ : St) (k : Int) (hτ : τ = ups σ 31 0 0 0) (hs : Inv N M σ) (hN : N ≤ 1000000) (hM : 0 ≤ M ∧ M ≤ 1000000) (hr_k : -2147483648 ≤ k ∧ k < 2147483648) : GI l yX8_thaw wsX8_thaw ({ frames := 2, cells := 0, slots := 0, locals := 43 } : Room) Dg cA mcnt ad oc (mE cA ad σ) [.ref (ad 0 0), .int (zi k)] (bi (cd_thaw τ k) (aThaw τ k) 0) (mE cA ad (stp (cd_thaw τ k) (fThaw τ k) τ)) := by
  have hv : Inv N M τ := by rw [hτ]; exact Inv_o31 hs
  have et : ∀ (t : Nat) (i j : Int), t ≠ 31 → τ t i j = σ t i j := fun t i j h => by rw [hτ, ups_t _ h]
  have hA := hv.A
  unfold IvA at hA
  have e1 := et 27 0 0 (by decide)
  by_cases c0 : 0 ≤ k ∧ k < τ 27 0 0
  · have e : cd_thaw τ k = 0 := by unfold cd_thaw; rw [if_pos c0]
    rw [e, stp_0, bi_0]
    exact n_thaw hI σ k hτ hv (by omega) (by omega)
  · have e : cd_thaw τ k = 1 := by unfold cd_thaw; rw [if_neg c0]
    rw [e, stp_1 (by decide), bi_1 (by decide), hτ, ups_ups]
    exact n_thaw_x hI σ k hs (by omega) (by omega)
set_option maxHeartbeats 2000000 in
set_option maxRecDepth 100000 in
theorem q_state {l : Launch} {Dg : va_G} {cA : Nat → ClassId} {ad : Nat → Int → Nat} {oc : Nat → Nat} (hI : WI mcnt ad) {N M : Int} {τ : St} (σ : St) (k : Int) (hτ : τ = ups σ 31 0 0 0) (hs : Inv N M σ) (hN : N ≤ 1000000) (hM : 0 ≤ M ∧ M ≤ 1000000) (hr_k : -2147483648 ≤ k ∧ k < 2147483648) : GI l yX8_state wsX8_state ({ frames := 2, cells := 0, slots := 0, locals := 43 } : Room) Dg cA mcnt ad oc (mE cA ad σ) [.ref (ad 0 0), .int (zi k)] (bi (cd_state τ k) (if τ 13 k 0 ≠ 0 then 111 else if τ 12 k 0 ≠ 0 then 102 else 112) 45) (mE cA ad (stp (cd_state τ k) τ τ)) := by
  have hv : Inv N M τ := by rw [hτ]; exact Inv_o31 hs
  have et : ∀ (t : Nat) (i j : Int), t ≠ 31 → τ t i j = σ t i j := fun t i j h => by rw [hτ, ups_t _ h]
  have hA := hv.A
  unfold IvA at hA
  have e1 := et 27 0 0 (by decide)
  by_cases c0 : 0 ≤ k ∧ k < τ 27 0 0
  · have e : cd_state τ k = 0 := by unfold cd_state; rw [if_pos c0]
    rw [e, stp_0, bi_0]
    exact n_state hI σ k hτ hv (by omega)
  · have e : cd_state τ k = 1 := by unfold cd_state; rw [if_neg c0]
    rw [e, stp_1 (by decide), bi_1 (by decide), hτ, ups_ups]
    exact n_state_x hI σ k hs (by omega) (by omega)
set_option maxHeartbeats 2000000 in
set_option maxRecDepth 100000 in
theorem q_plays {l : Launch} {Dg : va_G} {cA : Nat → ClassId} {ad : Nat → Int → Nat} {oc : Nat → Nat} (hI : WI mcnt ad) {N M : Int} {τ : St} (σ : St) (k : Int) (hτ : τ = ups σ 31 0 0 0) (hs : Inv N M σ) (hN : N ≤ 1000000) (hM : 0 ≤ M ∧ M ≤ 1000000) (hr_k : -2147483648 ≤ k ∧ k < 2147483648) : GI l yX8_plays wsX8_plays ({ frames := 3, cells := 0, slots := 0, locals := 64 } : Room) Dg cA mcnt ad oc (mE cA ad σ) [.ref (ad 0 0), .int (zi k)] (bi (cd_plays τ k) (τ 8 k 0) 0) (mE cA ad (stp (cd_plays τ k) τ τ)) := by
  have hv : Inv N M τ := by rw [hτ]; exact Inv_o31 hs
  have et : ∀ (t : Nat) (i j : Int), t ≠ 31 → τ t i j = σ t i j := fun t i j h => by rw [hτ, ups_t _ h]
  have hA := hv.A
  unfold IvA at hA
  have e1 := et 27 0 0 (by decide)
  have e2 := et 6 k 0 (by decide)
  by_cases c0 : 0 ≤ k ∧ k < τ 27 0 0
  · have hS := (hv.S k (by omega) (by omega)).1
    by_cases c1 : τ 6 k 0 = 1
    · have e : cd_plays τ k = 0 := by unfold cd_plays; rw [if_pos c0, if_pos c1]
      rw [e, stp_0, bi_0]
      exact n_plays hI σ k hτ hv (by omega) (by omega)
    · have e : cd_plays τ k = 2 := by unfold cd_plays; rw [if_pos c0, if_neg c1]
      rw [e, stp_1 (by decide), bi_1 (by decide), hτ, ups_ups]
      exact n_plays_n hI σ k hs (by omega) (by omega)
  · have e : cd_plays τ k = 1 := by unfold cd_plays; rw [if_neg c0]
    rw [e, stp_1 (by decide), bi_1 (by decide), hτ, ups_ups]
    exact n_plays_x hI σ k hs (by omega) (by omega)
set_option maxHeartbeats 2000000 in
set_option maxRecDepth 100000 in
theorem q_playerAt {l : Launch} {Dg : va_G} {cA : Nat → ClassId} {ad : Nat → Int → Nat} {oc : Nat → Nat} (hI : WI mcnt ad) {N M : Int} {τ : St} (σ : St) (k j : Int) (hτ : τ = ups σ 31 0 0 0) (hs : Inv N M σ) (hN : N ≤ 1000000) (hM : 0 ≤ M ∧ M ≤ 1000000) (hr_k : -2147483648 ≤ k ∧ k < 2147483648) (hr_j : -2147483648 ≤ j ∧ j < 2147483648) : GI l yX8_playerAt wsX8_playerAt ({ frames := 2, cells := 0, slots := 0, locals := 43 } : Room) Dg cA mcnt ad oc (mE cA ad σ) [.ref (ad 0 0), .int (zi k), .int (zi j)] (bi (cd_playerAt τ k j) (τ 16 k j) 0) (mE cA ad (stp (cd_playerAt τ k j) τ τ)) := by
  have hv : Inv N M τ := by rw [hτ]; exact Inv_o31 hs
  have et : ∀ (t : Nat) (i j : Int), t ≠ 31 → τ t i j = σ t i j := fun t i j h => by rw [hτ, ups_t _ h]
  have hA := hv.A
  unfold IvA at hA
  have e1 := et 27 0 0 (by decide)
  have e2 := et 17 k 0 (by decide)
  by_cases c0 : 0 ≤ k ∧ k < τ 27 0 0
  · by_cases c1 : 0 ≤ j ∧ j < τ 17 k 0
    · have e : cd_playerAt τ k j = 0 := by unfold cd_playerAt; rw [if_pos c0, if_pos c1]
      rw [e, stp_0, bi_0]
      exact n_playerAt hI σ k j hτ hv (by omega) (by omega)
    · have e : cd_playerAt τ k j = 2 := by unfold cd_playerAt; rw [if_pos c0, if_neg c1]
      rw [e, stp_1 (by decide), bi_1 (by decide), hτ, ups_ups]
      exact n_playerAt_n hI σ k j hs (by omega) (by omega) (by omega)
  · have e : cd_playerAt τ k j = 1 := by unfold cd_playerAt; rw [if_neg c0]
    rw [e, stp_1 (by decide), bi_1 (by decide), hτ, ups_ups]
    exact n_playerAt_x hI σ k j hs (by omega) (by omega)
set_option maxHeartbeats 2000000 in
set_option maxRecDepth 100000 in
theorem q_next {l : Launch} {Dg : va_G} {cA : Nat → ClassId} {ad : Nat → Int → Nat} {oc : Nat → Nat} (hI : WI mcnt ad) {N M : Int} {τ : St} (σ : St) (k : Int) (hτ : τ = ups σ 31 0 0 0) (hs : Inv N M σ) (hN : N ≤ 1000000) (hM : 0 ≤ M ∧ M ≤ 1000000) (hr_k : -2147483648 ≤ k ∧ k < 2147483648) : GI l yX8_next wsX8_next ({ frames := 3, cells := 0, slots := 0, locals := 64 } : Room) Dg cA mcnt ad oc (mE cA ad σ) [.ref (ad 0 0), .int (zi k)] (bi (cd_next τ k) (100 * τ 5 k 0 + τ 4 k (τ 5 k 0 - 1)) 0) (mE cA ad (stp (cd_next τ k) τ τ)) := by
  have hv : Inv N M τ := by rw [hτ]; exact Inv_o31 hs
  have et : ∀ (t : Nat) (i j : Int), t ≠ 31 → τ t i j = σ t i j := fun t i j h => by rw [hτ, ups_t _ h]
  have hA := hv.A
  unfold IvA at hA
  have e1 := et 27 0 0 (by decide)
  have e2 := et 6 k 0 (by decide)
  by_cases c0 : 0 ≤ k ∧ k < τ 27 0 0
  · have hS := (hv.S k (by omega) (by omega)).1
    by_cases c1 : τ 6 k 0 = 1
    · have e : cd_next τ k = 0 := by unfold cd_next; rw [if_pos c0, if_pos c1]
      rw [e, stp_0, bi_0]
      exact n_next hI σ k hτ hv (by omega) (by omega)
    · have e : cd_next τ k = 2 := by unfold cd_next; rw [if_pos c0, if_neg c1]
      rw [e, stp_1 (by decide), bi_1 (by decide), hτ, ups_ups]
      exact n_next_n hI σ k hs (by omega) (by omega)
  · have e : cd_next τ k = 1 := by unfold cd_next; rw [if_neg c0]
    rw [e, stp_1 (by decide), bi_1 (by decide), hτ, ups_ups]
    exact n_next_x hI σ k hs (by omega) (by omega)
set_option maxHeartbeats 2000000 in
set_option maxRecDepth 100000 in
theorem q_count {l : Launch} {Dg : va_G} {cA : Nat → ClassId} {ad : Nat → Int → Nat} {oc : Nat → Nat} (hI : WI mcnt ad) {N M : Int} {τ : St} (σ : St) (k : Int) (hτ : τ = ups σ 31 0 0 0) (hs : Inv N M σ) (hN : N ≤ 1000000) (hM : 0 ≤ M ∧ M ≤ 1000000) (hr_k : -2147483648 ≤ k ∧ k < 2147483648) : GI l yX8_count wsX8_count ({ frames := 3, cells := 0, slots := 0, locals := 64 } : Room) Dg cA mcnt ad oc (mE cA ad σ) [.ref (ad 0 0), .int (zi k)] (bi (cd_count τ k) (τ 9 k 0) 0) (mE cA ad (stp (cd_count τ k) τ τ)) := by
  have hv : Inv N M τ := by rw [hτ]; exact Inv_o31 hs
  have et : ∀ (t : Nat) (i j : Int), t ≠ 31 → τ t i j = σ t i j := fun t i j h => by rw [hτ, ups_t _ h]
  have hA := hv.A
  unfold IvA at hA
  have e1 := et 27 0 0 (by decide)
  have e2 := et 6 k 0 (by decide)
  by_cases c0 : 0 ≤ k ∧ k < τ 27 0 0
  · have hS := (hv.S k (by omega) (by omega)).1
    by_cases c1 : τ 6 k 0 = 1
    · have e : cd_count τ k = 0 := by unfold cd_count; rw [if_pos c0, if_pos c1]
      rw [e, stp_0, bi_0]
      exact n_count hI σ k hτ hv (by omega) (by omega)
    · have e : cd_count τ k = 2 := by unfold cd_count; rw [if_pos c0, if_neg c1]
      rw [e, stp_1 (by decide), bi_1 (by decide), hτ, ups_ups]
      exact n_count_n hI σ k hs (by omega) (by omega)
  · have e : cd_count τ k = 1 := by unfold cd_count; rw [if_neg c0]
    rw [e, stp_1 (by decide), bi_1 (by decide), hτ, ups_ups]
    exact n_count_x hI σ k hs (by omega) (by omega)
set_option maxHeartbeats 2000000 in
set_option maxRecDepth 100000 in
theorem q_waits {l : Launch} {Dg : va_G} {cA : Nat → ClassId} {ad : Nat → Int → Nat} {oc : Nat → Nat} (hI : WI mcnt ad) {N M : Int} {τ : St} (σ : St) (k : Int) (hτ : τ = ups σ 31 0 0 0) (hs : Inv N M σ) (hN : N ≤ 1000000) (hM : 0 ≤ M ∧ M ≤ 1000000) (hr_k : -2147483648 ≤ k ∧ k < 2147483648) : GI l yX8_waits wsX8_waits ({ frames := 3, cells := 0, slots := 0, locals := 64 } : Room) Dg cA mcnt ad oc (mE cA ad σ) [.ref (ad 0 0), .int (zi k)] (bi (cd_waits τ k) (if τ 11 k 0 ≠ -1 then 100 else τ 10 k 0) 0) (mE cA ad (stp (cd_waits τ k) τ τ)) := by
  have hv : Inv N M τ := by rw [hτ]; exact Inv_o31 hs
  have et : ∀ (t : Nat) (i j : Int), t ≠ 31 → τ t i j = σ t i j := fun t i j h => by rw [hτ, ups_t _ h]
  have hA := hv.A
  unfold IvA at hA
  have e1 := et 27 0 0 (by decide)
  have e2 := et 6 k 0 (by decide)
  by_cases c0 : 0 ≤ k ∧ k < τ 27 0 0
  · have hS := (hv.S k (by omega) (by omega)).1
    by_cases c1 : τ 6 k 0 = 1
    · have e : cd_waits τ k = 0 := by unfold cd_waits; rw [if_pos c0, if_pos c1]
      rw [e, stp_0, bi_0]
      exact n_waits hI σ k hτ hv (by omega) (by omega)
    · have e : cd_waits τ k = 2 := by unfold cd_waits; rw [if_pos c0, if_neg c1]
      rw [e, stp_1 (by decide), bi_1 (by decide), hτ, ups_ups]
      exact n_waits_n hI σ k hs (by omega) (by omega)
  · have e : cd_waits τ k = 1 := by unfold cd_waits; rw [if_neg c0]
    rw [e, stp_1 (by decide), bi_1 (by decide), hτ, ups_ups]
    exact n_waits_x hI σ k hs (by omega) (by omega)
set_option maxHeartbeats 2000000 in
set_option maxRecDepth 100000 in
theorem q_tick {l : Launch} {Dg : va_G} {cA : Nat → ClassId} {ad : Nat → Int → Nat} {oc : Nat → Nat} (hI : WI mcnt ad) {N M : Int} {τ : St} (σ : St) (n : Int) (hτ : τ = ups σ 31 0 0 0) (hs : Inv N M σ) (hN : N ≤ 1000000) (hM : 0 ≤ M ∧ M ≤ 1000000) (hr_n : -2147483648 ≤ n ∧ n < 2147483648) : GI l yX8_tick wsX8_tick ({ frames := 4, cells := 0, slots := 0, locals := 97 } : Room) Dg cA mcnt ad oc (mE cA ad σ) [.ref (ad 0 0), .int (zi n)] (bi (cd_tick τ n) (fTick n.toNat (ups τ 30 0 0 0) 30 0 0) 0) (mE cA ad (stp (cd_tick τ n) (fTick n.toNat (ups τ 30 0 0 0)) τ)) := by
  have hv : Inv N M τ := by rw [hτ]; exact Inv_o31 hs
  have et : ∀ (t : Nat) (i j : Int), t ≠ 31 → τ t i j = σ t i j := fun t i j h => by rw [hτ, ups_t _ h]
  have hA := hv.A
  unfold IvA at hA
  by_cases c0 : 1 ≤ n ∧ n ≤ 50
  · have e : cd_tick τ n = 0 := by unfold cd_tick; rw [if_pos c0]
    rw [e, stp_0, bi_0]
    exact n_tick hI σ n hτ hv (by omega) (by omega) (by omega)
  · have e : cd_tick τ n = 1 := by unfold cd_tick; rw [if_neg c0]
    rw [e, stp_1 (by decide), bi_1 (by decide), hτ, ups_ups]
    exact n_tick_x hI σ n (by omega) (by omega)
set_option maxHeartbeats 2000000 in
set_option maxRecDepth 100000 in
theorem q_slide {l : Launch} {Dg : va_G} {cA : Nat → ClassId} {ad : Nat → Int → Nat} {oc : Nat → Nat} (hI : WI mcnt ad) {N M : Int} {τ : St} (σ : St) (k : Int) (hτ : τ = ups σ 31 0 0 0) (hs : Inv N M σ) (hN : N ≤ 1000000) (hM : 0 ≤ M ∧ M ≤ 1000000) (hr_k : -2147483648 ≤ k ∧ k < 2147483648) : GI l yX8_slide wsX8_slide ({ frames := 2, cells := 0, slots := 0, locals := 43 } : Room) Dg cA mcnt ad oc (mE cA ad σ) [.ref (ad 0 0), .int (zi k)] (bi (cd_slide τ k) (τ 15 k 0) 0) (mE cA ad (stp (cd_slide τ k) τ τ)) := by
  have hv : Inv N M τ := by rw [hτ]; exact Inv_o31 hs
  have et : ∀ (t : Nat) (i j : Int), t ≠ 31 → τ t i j = σ t i j := fun t i j h => by rw [hτ, ups_t _ h]
  have hA := hv.A
  unfold IvA at hA
  have e1 := et 27 0 0 (by decide)
  have e2 := et 15 k 0 (by decide)
  by_cases c0 : 0 ≤ k ∧ k < τ 27 0 0
  · by_cases c1 : τ 15 k 0 ≠ -1
    · have e : cd_slide τ k = 0 := by unfold cd_slide; rw [if_pos c0, if_pos c1]
      rw [e, stp_0, bi_0]
      exact n_slide hI σ k hτ hv (by omega) (by omega)
    · have e : cd_slide τ k = 2 := by unfold cd_slide; rw [if_pos c0, if_neg c1]
      rw [e, stp_1 (by decide), bi_1 (by decide), hτ, ups_ups]
      exact n_slide_n hI σ k hs (by omega) (by omega)
  · have e : cd_slide τ k = 1 := by unfold cd_slide; rw [if_neg c0]
    rw [e, stp_1 (by decide), bi_1 (by decide), hτ, ups_ups]
    exact n_slide_x hI σ k hs (by omega) (by omega)
set_option maxHeartbeats 2000000 in
set_option maxRecDepth 100000 in
theorem q_holder {l : Launch} {Dg : va_G} {cA : Nat → ClassId} {ad : Nat → Int → Nat} {oc : Nat → Nat} (hI : WI mcnt ad) {N M : Int} {τ : St} (σ : St) (d : Int) (hτ : τ = ups σ 31 0 0 0) (hs : Inv N M σ) (hN : N ≤ 1000000) (hM : 0 ≤ M ∧ M ≤ 1000000) (hr_d : -2147483648 ≤ d ∧ d < 2147483648) : GI l yX8_holder wsX8_holder ({ frames := 2, cells := 0, slots := 0, locals := 42 } : Room) Dg cA mcnt ad oc (mE cA ad σ) [.ref (ad 0 0), .int (zi d)] (bi (cd_holder τ d) (τ 18 d 0) 0) (mE cA ad (stp (cd_holder τ d) τ τ)) := by
  have hv : Inv N M τ := by rw [hτ]; exact Inv_o31 hs
  have et : ∀ (t : Nat) (i j : Int), t ≠ 31 → τ t i j = σ t i j := fun t i j h => by rw [hτ, ups_t _ h]
  have hA := hv.A
  unfold IvA at hA
  have e1 := et 18 d 0 (by decide)
  by_cases c0 : 0 ≤ d ∧ d < 6
  · by_cases c1 : τ 18 d 0 ≠ -1
    · have e : cd_holder τ d = 0 := by unfold cd_holder; rw [if_pos c0, if_pos c1]
      rw [e, stp_0, bi_0]
      exact n_holder hI σ d hτ hv (by omega) (by omega)
    · have e : cd_holder τ d = 2 := by unfold cd_holder; rw [if_pos c0, if_neg c1]
      rw [e, stp_1 (by decide), bi_1 (by decide), hτ, ups_ups]
      exact n_holder_n hI σ d hs (by omega) (by omega)
  · have e : cd_holder τ d = 1 := by unfold cd_holder; rw [if_neg c0]
    rw [e, stp_1 (by decide), bi_1 (by decide), hτ, ups_ups]
    exact n_holder_x hI σ d (by omega) (by omega)
set_option maxHeartbeats 2000000 in
set_option maxRecDepth 100000 in
theorem q_queued {l : Launch} {Dg : va_G} {cA : Nat → ClassId} {ad : Nat → Int → Nat} {oc : Nat → Nat} (hI : WI mcnt ad) {N M : Int} {τ : St} (σ : St) (d j : Int) (hτ : τ = ups σ 31 0 0 0) (hs : Inv N M σ) (hN : N ≤ 1000000) (hM : 0 ≤ M ∧ M ≤ 1000000) (hr_d : -2147483648 ≤ d ∧ d < 2147483648) (hr_j : -2147483648 ≤ j ∧ j < 2147483648) : GI l yX8_queued wsX8_queued ({ frames := 2, cells := 0, slots := 0, locals := 42 } : Room) Dg cA mcnt ad oc (mE cA ad σ) [.ref (ad 0 0), .int (zi d), .int (zi j)] (bi (cd_queued τ d j) (τ 16 (6 + d) j) 0) (mE cA ad (stp (cd_queued τ d j) τ τ)) := by
  have hv : Inv N M τ := by rw [hτ]; exact Inv_o31 hs
  have et : ∀ (t : Nat) (i j : Int), t ≠ 31 → τ t i j = σ t i j := fun t i j h => by rw [hτ, ups_t _ h]
  have hA := hv.A
  unfold IvA at hA
  have e1 := et 17 (6 + d) 0 (by decide)
  by_cases c0 : 0 ≤ d ∧ d < 6
  · by_cases c1 : 0 ≤ j ∧ j < τ 17 (6 + d) 0
    · have e : cd_queued τ d j = 0 := by unfold cd_queued; rw [if_pos c0, if_pos c1]
      rw [e, stp_0, bi_0]
      exact n_queued hI σ d j hτ hv (by omega) (by omega)
    · have e : cd_queued τ d j = 2 := by unfold cd_queued; rw [if_pos c0, if_neg c1]
      rw [e, stp_1 (by decide), bi_1 (by decide), hτ, ups_ups]
      exact n_queued_n hI σ d j hs (by omega) (by omega) (by omega)
  · have e : cd_queued τ d j = 1 := by unfold cd_queued; rw [if_neg c0]
    rw [e, stp_1 (by decide), bi_1 (by decide), hτ, ups_ups]
    exact n_queued_x hI σ d j (by omega) (by omega)
set_option maxHeartbeats 2000000 in
set_option maxRecDepth 100000 in
theorem q_visitor {l : Launch} {Dg : va_G} {cA : Nat → ClassId} {ad : Nat → Int → Nat} {oc : Nat → Nat} (hI : WI mcnt ad) {N M : Int} {τ : St} (σ : St) (hτ : τ = ups σ 31 0 0 0) (hs : Inv N M σ) (hN : N ≤ 1000000) (hM : 0 ≤ M ∧ M ≤ 1000000) : GI l yX8_visitor wsX8_visitor ({ frames := 1, cells := 0, slots := 0, locals := 22 } : Room) Dg cA mcnt ad oc (mE cA ad σ) [.ref (ad 0 0)] (bi (cd_visitor τ) (τ 28 0 0) 0) (mE cA ad (stp (cd_visitor τ) (ups τ 28 0 0 (τ 28 0 0 + 1)) τ)) := by
  have hv : Inv N M τ := by rw [hτ]; exact Inv_o31 hs
  have et : ∀ (t : Nat) (i j : Int), t ≠ 31 → τ t i j = σ t i j := fun t i j h => by rw [hτ, ups_t _ h]
  have hA := hv.A
  unfold IvA at hA
  have e1 := et 28 0 0 (by decide)
  by_cases c0 : τ 28 0 0 < 10
  · have e : cd_visitor τ = 0 := by unfold cd_visitor; rw [if_pos c0]
    rw [e, stp_0, bi_0]
    exact n_visitor hI σ hτ (by omega)
  · have e : cd_visitor τ = 1 := by unfold cd_visitor; rw [if_neg c0]
    rw [e, stp_1 (by decide), bi_1 (by decide), hτ, ups_ups]
    exact n_visitor_s hI σ (by omega)
set_option maxHeartbeats 2000000 in
set_option maxRecDepth 100000 in
theorem q_go {l : Launch} {Dg : va_G} {cA : Nat → ClassId} {ad : Nat → Int → Nat} {oc : Nat → Nat} (hI : WI mcnt ad) {N M : Int} {τ : St} (σ : St) (v k : Int) (hτ : τ = ups σ 31 0 0 0) (hs : Inv N M σ) (hN : N ≤ 1000000) (hM : 0 ≤ M ∧ M ≤ 1000000) (hr_v : -2147483648 ≤ v ∧ v < 2147483648) (hr_k : -2147483648 ≤ k ∧ k < 2147483648) : GI l yX8_go wsX8_go ({ frames := 2, cells := 0, slots := 0, locals := 43 } : Room) Dg cA mcnt ad oc (mE cA ad σ) [.ref (ad 0 0), .int (zi v), .int (zi k)] (bi (cd_go τ v k) (τ 22 v 0) 0) (mE cA ad (stp (cd_go τ v k) (ups τ 22 v 0 k) τ)) := by
  have hv : Inv N M τ := by rw [hτ]; exact Inv_o31 hs
  have et : ∀ (t : Nat) (i j : Int), t ≠ 31 → τ t i j = σ t i j := fun t i j h => by rw [hτ, ups_t _ h]
  have hA := hv.A
  unfold IvA at hA
  have e1 := et 28 0 0 (by decide)
  have e2 := et 27 0 0 (by decide)
  by_cases c0 : 0 ≤ v ∧ v < τ 28 0 0
  · by_cases c1 : k = -1 ∨ (0 ≤ k ∧ k < τ 27 0 0)
    · have e : cd_go τ v k = 0 := by unfold cd_go; rw [if_pos c0, if_pos c1]
      rw [e, stp_0, bi_0]
      exact n_go hI σ v k hτ hv (by omega) (by omega)
    · have e : cd_go τ v k = 1 := by unfold cd_go; rw [if_pos c0, if_neg c1]
      rw [e, stp_1 (by decide), bi_1 (by decide), hτ, ups_ups]
      exact n_go_y hI σ v k hs (by omega) (by omega) (by omega)
  · have e : cd_go τ v k = 1 := by unfold cd_go; rw [if_neg c0]
    rw [e, stp_1 (by decide), bi_1 (by decide), hτ, ups_ups]
    exact n_go_x hI σ v k hs (by omega) (by omega)
set_option maxHeartbeats 2000000 in
set_option maxRecDepth 100000 in
theorem q_ask {l : Launch} {Dg : va_G} {cA : Nat → ClassId} {ad : Nat → Int → Nat} {oc : Nat → Nat} (hI : WI mcnt ad) {N M : Int} {τ : St} (σ : St) (v n : Int) (hτ : τ = ups σ 31 0 0 0) (hs : Inv N M σ) (hN : N ≤ 1000000) (hM : 0 ≤ M ∧ M ≤ 1000000) (hr_v : -2147483648 ≤ v ∧ v < 2147483648) (hr_n : -2147483648 ≤ n ∧ n < 2147483648) : GI l yX8_ask wsX8_ask ({ frames := 2, cells := 0, slots := 0, locals := 43 } : Room) Dg cA mcnt ad oc (mE cA ad σ) [.ref (ad 0 0), .int (zi v), .int (zi n)] (bi (cd_ask τ v n) (if 0 < τ 19 v n then 1 else 0) 0) (mE cA ad (stp (cd_ask τ v n) (ups (ups τ 21 v n 1) 20 v n (τ 20 v n + 1)) τ)) := by
  have hv : Inv N M τ := by rw [hτ]; exact Inv_o31 hs
  have et : ∀ (t : Nat) (i j : Int), t ≠ 31 → τ t i j = σ t i j := fun t i j h => by rw [hτ, ups_t _ h]
  have hA := hv.A
  unfold IvA at hA
  have e1 := et 28 0 0 (by decide)
  by_cases c0 : 0 ≤ v ∧ v < τ 28 0 0
  · by_cases c1 : 0 ≤ n ∧ n < 100
    · have e : cd_ask τ v n = 0 := by unfold cd_ask; rw [if_pos c0, if_pos c1]
      rw [e, stp_0, bi_0]
      exact n_ask hI σ v n hτ hv (by omega) (by omega) (by omega)
    · have e : cd_ask τ v n = 2 := by unfold cd_ask; rw [if_pos c0, if_neg c1]
      rw [e, stp_1 (by decide), bi_1 (by decide), hτ, ups_ups]
      exact n_ask_s hI σ v n hs (by omega) (by omega) (by omega)
  · have e : cd_ask τ v n = 1 := by unfold cd_ask; rw [if_neg c0]
    rw [e, stp_1 (by decide), bi_1 (by decide), hτ, ups_ups]
    exact n_ask_x hI σ v n hs (by omega) (by omega)
set_option maxHeartbeats 2000000 in
set_option maxRecDepth 100000 in
theorem q_saw {l : Launch} {Dg : va_G} {cA : Nat → ClassId} {ad : Nat → Int → Nat} {oc : Nat → Nat} (hI : WI mcnt ad) {N M : Int} {τ : St} (σ : St) (v n : Int) (hτ : τ = ups σ 31 0 0 0) (hs : Inv N M σ) (hN : N ≤ 1000000) (hM : 0 ≤ M ∧ M ≤ 1000000) (hr_v : -2147483648 ≤ v ∧ v < 2147483648) (hr_n : -2147483648 ≤ n ∧ n < 2147483648) : GI l yX8_saw wsX8_saw ({ frames := 2, cells := 0, slots := 0, locals := 43 } : Room) Dg cA mcnt ad oc (mE cA ad σ) [.ref (ad 0 0), .int (zi v), .int (zi n)] (bi (cd_saw τ v n) (τ 19 v n) 0) (mE cA ad (stp (cd_saw τ v n) τ τ)) := by
  have hv : Inv N M τ := by rw [hτ]; exact Inv_o31 hs
  have et : ∀ (t : Nat) (i j : Int), t ≠ 31 → τ t i j = σ t i j := fun t i j h => by rw [hτ, ups_t _ h]
  have hA := hv.A
  unfold IvA at hA
  have e1 := et 28 0 0 (by decide)
  by_cases c0 : 0 ≤ v ∧ v < τ 28 0 0
  · by_cases c1 : 0 ≤ n ∧ n < 100
    · have e : cd_saw τ v n = 0 := by unfold cd_saw; rw [if_pos c0, if_pos c1]
      rw [e, stp_0, bi_0]
      exact n_saw hI σ v n hτ hv (by omega) (by omega)
    · have e : cd_saw τ v n = 2 := by unfold cd_saw; rw [if_pos c0, if_neg c1]
      rw [e, stp_1 (by decide), bi_1 (by decide), hτ, ups_ups]
      exact n_saw_s hI σ v n hs (by omega) (by omega) (by omega)
  · have e : cd_saw τ v n = 1 := by unfold cd_saw; rw [if_neg c0]
    rw [e, stp_1 (by decide), bi_1 (by decide), hτ, ups_ups]
    exact n_saw_x hI σ v n hs (by omega) (by omega)
set_option maxHeartbeats 2000000 in
set_option maxRecDepth 100000 in
theorem q_meanSeen {l : Launch} {Dg : va_G} {cA : Nat → ClassId} {ad : Nat → Int → Nat} {oc : Nat → Nat} (hI : WI mcnt ad) {N M : Int} {τ : St} (σ : St) (hτ : τ = ups σ 31 0 0 0) (hs : Inv N M σ) (hN : N ≤ 1000000) (hM : 0 ≤ M ∧ M ≤ 1000000) : GD l yX8_meanSeen wsX8_meanSeen ({ frames := 1, cells := 0, slots := 0, locals := 22 } : Room) Dg cA mcnt ad oc (mE cA ad σ) [.ref (ad 0 0)] (bxd (cd_meanSeen τ) (dmB (sumN τ (100 * τ 28 0 0).toNat) (τ 28 0 0)) FP.dconst0) (mE cA ad (stp (cd_meanSeen τ) τ τ)) := by
  have hv : Inv N M τ := by rw [hτ]; exact Inv_o31 hs
  have et : ∀ (t : Nat) (i j : Int), t ≠ 31 → τ t i j = σ t i j := fun t i j h => by rw [hτ, ups_t _ h]
  have hA := hv.A
  unfold IvA at hA
  have e1 := et 28 0 0 (by decide)
  by_cases c0 : 0 < τ 28 0 0
  · have e : cd_meanSeen τ = 0 := by unfold cd_meanSeen; rw [if_pos c0]
    rw [e, stp_0, bxd_0]
    exact n_meanSeen hI σ hτ hv (by omega) (by omega)
  · have e : cd_meanSeen τ = 1 := by unfold cd_meanSeen; rw [if_neg c0]
    rw [e, stp_1 (by decide), bxd_1 (by decide), hτ, ups_ups]
    exact n_meanSeen_x hI σ (by omega)
end M13A
