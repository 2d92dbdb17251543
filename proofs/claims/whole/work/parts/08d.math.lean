section WRAPDEFS
/-- by the code: the call's own, or the other -/
def bx (c : Int) (x o : Int64) : Int64 := if c = 0 then x else o
def bxd (c : Int) (x o : UInt64) : UInt64 := if c = 0 then x else o
def bi (c : Int) (x o : Int) : Int := if c = 0 then x else o
theorem bx_0 (x o : Int64) : bx 0 x o = x := if_pos rfl
theorem bx_1 {c : Int} (h : c ≠ 0) (x o : Int64) : bx c x o = o := if_neg h
theorem bxd_0 (x o : UInt64) : bxd 0 x o = x := if_pos rfl
theorem bxd_1 {c : Int} (h : c ≠ 0) (x o : UInt64) : bxd c x o = o := if_neg h
theorem bi_0 (x o : Int) : bi 0 x o = x := if_pos rfl
theorem bi_1 {c : Int} (h : c ≠ 0) (x o : Int) : bi c x o = o := if_neg h
def cd_list (σ : St) : Int := if σ 26 0 0 < 8 then (0) else 1
def cd_line (σ : St) (a place k n : Int) : Int := if 0 ≤ a ∧ a < σ 26 0 0 then (if 0 ≤ place ∧ place ≤ σ 3 a 0 then (if mostN k ≠ -1 then (if leastN k ≤ n ∧ n ≤ mostN k then (if σ 3 a 0 < 20 then (0) else 3) else 2) else 2) else 1) else 1
def cd_cut (σ : St) (a place : Int) : Int := if 0 ≤ a ∧ a < σ 26 0 0 then (if 0 ≤ place ∧ place < σ 3 a 0 then (0) else 1) else 1
def cd_lines (σ : St) (a k : Int) : Int := if 0 ≤ a ∧ a < σ 26 0 0 then (if mostN k ≠ -1 then (0) else 2) else 1
def cd_kiosk (σ : St) : Int := if σ 27 0 0 < 6 then (0) else 1
def cd_start (σ : St) (k r : Int) : Int := if 0 ≤ k ∧ k < σ 27 0 0 then (if 0 ≤ r ∧ r < σ 26 0 0 then (if σ 6 k 0 = 0 then (0) else 2) else 1) else 1
def cd_stop (σ : St) (k : Int) : Int := if 0 ≤ k ∧ k < σ 27 0 0 then (if σ 6 k 0 = 1 then (0) else 2) else 1
def cd_freeze (σ : St) (k : Int) : Int := if 0 ≤ k ∧ k < σ 27 0 0 then (0) else 1
def cd_thaw (σ : St) (k : Int) : Int := if 0 ≤ k ∧ k < σ 27 0 0 then (0) else 1
def cd_state (σ : St) (k : Int) : Int := if 0 ≤ k ∧ k < σ 27 0 0 then (0) else 1
def cd_plays (σ : St) (k : Int) : Int := if 0 ≤ k ∧ k < σ 27 0 0 then (if σ 6 k 0 = 1 then (0) else 2) else 1
def cd_playerAt (σ : St) (k j : Int) : Int := if 0 ≤ k ∧ k < σ 27 0 0 then (if 0 ≤ j ∧ j < σ 17 k 0 then (0) else 2) else 1
def cd_next (σ : St) (k : Int) : Int := if 0 ≤ k ∧ k < σ 27 0 0 then (if σ 6 k 0 = 1 then (0) else 2) else 1
def cd_count (σ : St) (k : Int) : Int := if 0 ≤ k ∧ k < σ 27 0 0 then (if σ 6 k 0 = 1 then (0) else 2) else 1
def cd_waits (σ : St) (k : Int) : Int := if 0 ≤ k ∧ k < σ 27 0 0 then (if σ 6 k 0 = 1 then (0) else 2) else 1
def cd_tick (σ : St) (n : Int) : Int := if 1 ≤ n ∧ n ≤ 50 then (0) else 1
def cd_slide (σ : St) (k : Int) : Int := if 0 ≤ k ∧ k < σ 27 0 0 then (if σ 15 k 0 ≠ -1 then (0) else 2) else 1
def cd_holder (σ : St) (d : Int) : Int := if 0 ≤ d ∧ d < 6 then (if σ 18 d 0 ≠ -1 then (0) else 2) else 1
def cd_queued (σ : St) (d j : Int) : Int := if 0 ≤ d ∧ d < 6 then (if 0 ≤ j ∧ j < σ 17 (6 + d) 0 then (0) else 2) else 1
def cd_visitor (σ : St) : Int := if σ 28 0 0 < 10 then (0) else 1
def cd_go (σ : St) (v k : Int) : Int := if 0 ≤ v ∧ v < σ 28 0 0 then (if k = -1 ∨ (0 ≤ k ∧ k < σ 27 0 0) then (0) else 1) else 1
def cd_ask (σ : St) (v n : Int) : Int := if 0 ≤ v ∧ v < σ 28 0 0 then (if 0 ≤ n ∧ n < 100 then (0) else 2) else 1
def cd_saw (σ : St) (v n : Int) : Int := if 0 ≤ v ∧ v < σ 28 0 0 then (if 0 ≤ n ∧ n < 100 then (0) else 2) else 1
def cd_meanSeen (σ : St) : Int := if 0 < σ 28 0 0 then (0) else 1
theorem iv_list {N M : Int} {τ : St} (hv : Inv N M τ) (hM : 0 ≤ M) (h0 : τ 31 0 0 = 0) : Inv (N + 1) (M + 300) (stp (cd_list τ) (ups τ 26 0 0 (τ 26 0 0 + 1)) τ) ∧ stp (cd_list τ) (ups τ 26 0 0 (τ 26 0 0 + 1)) τ 31 0 0 = cd_list τ := by
  refine ⟨stp_Inv hv (by omega) (by omega) (fun z => ?_), stp_31 h0 (fun z => ?_)⟩
  · have hA := hv.A
    unfold IvA at hA
    by_cases c0 : τ 26 0 0 < 8
    · have e : cd_list τ = 0 := by unfold cd_list; rw [if_pos c0]
      exact Inv_mono (Inv_list hv (by omega)) (by omega) (by omega)
    · have e : cd_list τ = 1 := by unfold cd_list; rw [if_neg c0]
      exact absurd (e.symm.trans z) (by decide)
  · exact ups_T _ _ _ _ _ 31 (by decide)
theorem iv_line {N M : Int} {τ : St} (a place k n : Int) (hv : Inv N M τ) (hM : 0 ≤ M) (h0 : τ 31 0 0 = 0) (hr_a : -2147483648 ≤ a ∧ a < 2147483648) (hr_place : -2147483648 ≤ place ∧ place < 2147483648) (hr_k : 0 ≤ k ∧ k < 65536) (hr_n : -2147483648 ≤ n ∧ n < 2147483648) : Inv (N + 1) (M + 300) (stp (cd_line τ a place k n) (fIns τ a place k n) τ) ∧ stp (cd_line τ a place k n) (fIns τ a place k n) τ 31 0 0 = cd_line τ a place k n := by
  refine ⟨stp_Inv hv (by omega) (by omega) (fun z => ?_), stp_31 h0 (fun z => ?_)⟩
  · have hA := hv.A
    unfold IvA at hA
    by_cases c0 : 0 ≤ a ∧ a < τ 26 0 0
    · have r1 := (hv.R a (by omega) (by omega)).1
      by_cases c1 : 0 ≤ place ∧ place ≤ τ 3 a 0
      · by_cases c2 : mostN k ≠ -1
        · by_cases c3 : leastN k ≤ n ∧ n ≤ mostN k
          · by_cases c4 : τ 3 a 0 < 20
            · have e : cd_line τ a place k n = 0 := by unfold cd_line; rw [if_pos c0, if_pos c1, if_pos c2, if_pos c3, if_pos c4]
              exact Inv_mono (Inv_fIns hv (by omega) (by omega) hr_k (okL_of c2 c3.1 c3.2) (by omega)) (by omega) (by omega)
            · have e : cd_line τ a place k n = 3 := by unfold cd_line; rw [if_pos c0, if_pos c1, if_pos c2, if_pos c3, if_neg c4]
              exact absurd (e.symm.trans z) (by decide)
          · have e : cd_line τ a place k n = 2 := by unfold cd_line; rw [if_pos c0, if_pos c1, if_pos c2, if_neg c3]
            exact absurd (e.symm.trans z) (by decide)
        · have e : cd_line τ a place k n = 2 := by unfold cd_line; rw [if_pos c0, if_pos c1, if_neg c2]
          exact absurd (e.symm.trans z) (by decide)
      · have e : cd_line τ a place k n = 1 := by unfold cd_line; rw [if_pos c0, if_neg c1]
        exact absurd (e.symm.trans z) (by decide)
    · have e : cd_line τ a place k n = 1 := by unfold cd_line; rw [if_neg c0]
      exact absurd (e.symm.trans z) (by decide)
  · exact fIns_T _ _ _ _ _ 31 (by decide)
theorem iv_cut {N M : Int} {τ : St} (a place : Int) (hv : Inv N M τ) (hM : 0 ≤ M) (h0 : τ 31 0 0 = 0) (hr_a : -2147483648 ≤ a ∧ a < 2147483648) (hr_place : -2147483648 ≤ place ∧ place < 2147483648) : Inv (N + 1) (M + 300) (stp (cd_cut τ a place) (fRem τ a place) τ) ∧ stp (cd_cut τ a place) (fRem τ a place) τ 31 0 0 = cd_cut τ a place := by
  refine ⟨stp_Inv hv (by omega) (by omega) (fun z => ?_), stp_31 h0 (fun z => ?_)⟩
  · have hA := hv.A
    unfold IvA at hA
    by_cases c0 : 0 ≤ a ∧ a < τ 26 0 0
    · by_cases c1 : 0 ≤ place ∧ place < τ 3 a 0
      · have e : cd_cut τ a place = 0 := by unfold cd_cut; rw [if_pos c0, if_pos c1]
        exact Inv_mono (Inv_fRem hv (by omega) (by omega)) (by omega) (by omega)
      · have e : cd_cut τ a place = 1 := by unfold cd_cut; rw [if_pos c0, if_neg c1]
        exact absurd (e.symm.trans z) (by decide)
    · have e : cd_cut τ a place = 1 := by unfold cd_cut; rw [if_neg c0]
      exact absurd (e.symm.trans z) (by decide)
  · exact fRem_T _ _ _ 31 (by decide)
theorem iv_lines {N M : Int} {τ : St} (a k : Int) (hv : Inv N M τ) (hM : 0 ≤ M) (h0 : τ 31 0 0 = 0) (hr_a : -2147483648 ≤ a ∧ a < 2147483648) (hr_k : 0 ≤ k ∧ k < 65536) : Inv (N + 1) (M + 300) (stp (cd_lines τ a k) τ τ) ∧ stp (cd_lines τ a k) τ τ 31 0 0 = cd_lines τ a k := by
  refine ⟨stp_Inv hv (by omega) (by omega) (fun z => ?_), stp_31 h0 (fun z => ?_)⟩
  · have hA := hv.A
    unfold IvA at hA
    by_cases c0 : 0 ≤ a ∧ a < τ 26 0 0
    · by_cases c1 : mostN k ≠ -1
      · have e : cd_lines τ a k = 0 := by unfold cd_lines; rw [if_pos c0, if_pos c1]
        exact Inv_mono hv (by omega) (by omega)
      · have e : cd_lines τ a k = 2 := by unfold cd_lines; rw [if_pos c0, if_neg c1]
        exact absurd (e.symm.trans z) (by decide)
    · have e : cd_lines τ a k = 1 := by unfold cd_lines; rw [if_neg c0]
      exact absurd (e.symm.trans z) (by decide)
  · exact rfl
theorem iv_kiosk {N M : Int} {τ : St} (hv : Inv N M τ) (hM : 0 ≤ M) (h0 : τ 31 0 0 = 0) : Inv (N + 1) (M + 300) (stp (cd_kiosk τ) (ups τ 27 0 0 (τ 27 0 0 + 1)) τ) ∧ stp (cd_kiosk τ) (ups τ 27 0 0 (τ 27 0 0 + 1)) τ 31 0 0 = cd_kiosk τ := by
  refine ⟨stp_Inv hv (by omega) (by omega) (fun z => ?_), stp_31 h0 (fun z => ?_)⟩
  · have hA := hv.A
    unfold IvA at hA
    by_cases c0 : τ 27 0 0 < 6
    · have e : cd_kiosk τ = 0 := by unfold cd_kiosk; rw [if_pos c0]
      exact Inv_mono (Inv_kiosk hv (by omega)) (by omega) (by omega)
    · have e : cd_kiosk τ = 1 := by unfold cd_kiosk; rw [if_neg c0]
      exact absurd (e.symm.trans z) (by decide)
  · exact ups_T _ _ _ _ _ 31 (by decide)
theorem iv_start {N M : Int} {τ : St} (k r : Int) (hv : Inv N M τ) (hM : 0 ≤ M) (h0 : τ 31 0 0 = 0) (hr_k : -2147483648 ≤ k ∧ k < 2147483648) (hr_r : -2147483648 ≤ r ∧ r < 2147483648) : Inv (N + 1) (M + 300) (stp (cd_start τ k r) (fStart τ k r) τ) ∧ stp (cd_start τ k r) (fStart τ k r) τ 31 0 0 = cd_start τ k r := by
  refine ⟨stp_Inv hv (by omega) (by omega) (fun z => ?_), stp_31 h0 (fun z => ?_)⟩
  · have hA := hv.A
    unfold IvA at hA
    by_cases c0 : 0 ≤ k ∧ k < τ 27 0 0
    · have hS := (hv.S k (by omega) (by omega)).1
      by_cases c1 : 0 ≤ r ∧ r < τ 26 0 0
      · by_cases c2 : τ 6 k 0 = 0
        · have e : cd_start τ k r = 0 := by unfold cd_start; rw [if_pos c0, if_pos c1, if_pos c2]
          exact Inv_mono (Inv_fStart hv (by omega) (by omega) (by omega) (by omega)) (by omega) (by omega)
        · have e : cd_start τ k r = 2 := by unfold cd_start; rw [if_pos c0, if_pos c1, if_neg c2]
          exact absurd (e.symm.trans z) (by decide)
      · have e : cd_start τ k r = 1 := by unfold cd_start; rw [if_pos c0, if_neg c1]
        exact absurd (e.symm.trans z) (by decide)
    · have e : cd_start τ k r = 1 := by unfold cd_start; rw [if_neg c0]
      exact absurd (e.symm.trans z) (by decide)
  · exact fStart_31 _ _ _
theorem iv_stop {N M : Int} {τ : St} (k : Int) (hv : Inv N M τ) (hM : 0 ≤ M) (h0 : τ 31 0 0 = 0) (hr_k : -2147483648 ≤ k ∧ k < 2147483648) : Inv (N + 1) (M + 300) (stp (cd_stop τ k) (fStop τ k) τ) ∧ stp (cd_stop τ k) (fStop τ k) τ 31 0 0 = cd_stop τ k := by
  refine ⟨stp_Inv hv (by omega) (by omega) (fun z => ?_), stp_31 h0 (fun z => ?_)⟩
  · have hA := hv.A
    unfold IvA at hA
    by_cases c0 : 0 ≤ k ∧ k < τ 27 0 0
    · have hS := (hv.S k (by omega) (by omega)).1
      by_cases c1 : τ 6 k 0 = 1
      · have e : cd_stop τ k = 0 := by unfold cd_stop; rw [if_pos c0, if_pos c1]
        exact Inv_mono (Inv_fStop hv (by omega) (by omega)) (by omega) (by omega)
      · have e : cd_stop τ k = 2 := by unfold cd_stop; rw [if_pos c0, if_neg c1]
        exact absurd (e.symm.trans z) (by decide)
    · have e : cd_stop τ k = 1 := by unfold cd_stop; rw [if_neg c0]
      exact absurd (e.symm.trans z) (by decide)
  · exact fStop_31 _ _
theorem iv_freeze {N M : Int} {τ : St} (k : Int) (hv : Inv N M τ) (hM : 0 ≤ M) (h0 : τ 31 0 0 = 0) (hr_k : -2147483648 ≤ k ∧ k < 2147483648) : Inv (N + 1) (M + 300) (stp (cd_freeze τ k) (ups τ 12 k 0 1) τ) ∧ stp (cd_freeze τ k) (ups τ 12 k 0 1) τ 31 0 0 = cd_freeze τ k := by
  refine ⟨stp_Inv hv (by omega) (by omega) (fun z => ?_), stp_31 h0 (fun z => ?_)⟩
  · have hA := hv.A
    unfold IvA at hA
    by_cases c0 : 0 ≤ k ∧ k < τ 27 0 0
    · have e : cd_freeze τ k = 0 := by unfold cd_freeze; rw [if_pos c0]
      exact Inv_mono (Inv_frz hv) (by omega) (by omega)
    · have e : cd_freeze τ k = 1 := by unfold cd_freeze; rw [if_neg c0]
      exact absurd (e.symm.trans z) (by decide)
  · exact ups_T _ _ _ _ _ 31 (by decide)
theorem iv_thaw {N M : Int} {τ : St} (k : Int) (hv : Inv N M τ) (hM : 0 ≤ M) (h0 : τ 31 0 0 = 0) (hr_k : -2147483648 ≤ k ∧ k < 2147483648) : Inv (N + 1) (M + 300) (stp (cd_thaw τ k) (fThaw τ k) τ) ∧ stp (cd_thaw τ k) (fThaw τ k) τ 31 0 0 = cd_thaw τ k := by
  refine ⟨stp_Inv hv (by omega) (by omega) (fun z => ?_), stp_31 h0 (fun z => ?_)⟩
  · have hA := hv.A
    unfold IvA at hA
    by_cases c0 : 0 ≤ k ∧ k < τ 27 0 0
    · have e : cd_thaw τ k = 0 := by unfold cd_thaw; rw [if_pos c0]
      exact Inv_mono (Inv_fThaw hv (by omega) (by omega)) (by omega) (by omega)
    · have e : cd_thaw τ k = 1 := by unfold cd_thaw; rw [if_neg c0]
      exact absurd (e.symm.trans z) (by decide)
  · exact fThaw_31 _ _
theorem iv_state {N M : Int} {τ : St} (k : Int) (hv : Inv N M τ) (hM : 0 ≤ M) (h0 : τ 31 0 0 = 0) (hr_k : -2147483648 ≤ k ∧ k < 2147483648) : Inv (N + 1) (M + 300) (stp (cd_state τ k) τ τ) ∧ stp (cd_state τ k) τ τ 31 0 0 = cd_state τ k := by
  refine ⟨stp_Inv hv (by omega) (by omega) (fun z => ?_), stp_31 h0 (fun z => ?_)⟩
  · have hA := hv.A
    unfold IvA at hA
    by_cases c0 : 0 ≤ k ∧ k < τ 27 0 0
    · have e : cd_state τ k = 0 := by unfold cd_state; rw [if_pos c0]
      exact Inv_mono hv (by omega) (by omega)
    · have e : cd_state τ k = 1 := by unfold cd_state; rw [if_neg c0]
      exact absurd (e.symm.trans z) (by decide)
  · exact rfl
theorem iv_plays {N M : Int} {τ : St} (k : Int) (hv : Inv N M τ) (hM : 0 ≤ M) (h0 : τ 31 0 0 = 0) (hr_k : -2147483648 ≤ k ∧ k < 2147483648) : Inv (N + 1) (M + 300) (stp (cd_plays τ k) τ τ) ∧ stp (cd_plays τ k) τ τ 31 0 0 = cd_plays τ k := by
  refine ⟨stp_Inv hv (by omega) (by omega) (fun z => ?_), stp_31 h0 (fun z => ?_)⟩
  · have hA := hv.A
    unfold IvA at hA
    by_cases c0 : 0 ≤ k ∧ k < τ 27 0 0
    · have hS := (hv.S k (by omega) (by omega)).1
      by_cases c1 : τ 6 k 0 = 1
      · have e : cd_plays τ k = 0 := by unfold cd_plays; rw [if_pos c0, if_pos c1]
        exact Inv_mono hv (by omega) (by omega)
      · have e : cd_plays τ k = 2 := by unfold cd_plays; rw [if_pos c0, if_neg c1]
        exact absurd (e.symm.trans z) (by decide)
    · have e : cd_plays τ k = 1 := by unfold cd_plays; rw [if_neg c0]
      exact absurd (e.symm.trans z) (by decide)
  · exact rfl
theorem iv_playerAt {N M : Int} {τ : St} (k j : Int) (hv : Inv N M τ) (hM : 0 ≤ M) (h0 : τ 31 0 0 = 0) (hr_k : -2147483648 ≤ k ∧ k < 2147483648) (hr_j : -2147483648 ≤ j ∧ j < 2147483648) : Inv (N + 1) (M + 300) (stp (cd_playerAt τ k j) τ τ) ∧ stp (cd_playerAt τ k j) τ τ 31 0 0 = cd_playerAt τ k j := by
  refine ⟨stp_Inv hv (by omega) (by omega) (fun z => ?_), stp_31 h0 (fun z => ?_)⟩
  · have hA := hv.A
    unfold IvA at hA
    by_cases c0 : 0 ≤ k ∧ k < τ 27 0 0
    · by_cases c1 : 0 ≤ j ∧ j < τ 17 k 0
      · have e : cd_playerAt τ k j = 0 := by unfold cd_playerAt; rw [if_pos c0, if_pos c1]
        exact Inv_mono hv (by omega) (by omega)
      · have e : cd_playerAt τ k j = 2 := by unfold cd_playerAt; rw [if_pos c0, if_neg c1]
        exact absurd (e.symm.trans z) (by decide)
    · have e : cd_playerAt τ k j = 1 := by unfold cd_playerAt; rw [if_neg c0]
      exact absurd (e.symm.trans z) (by decide)
  · exact rfl
theorem iv_next {N M : Int} {τ : St} (k : Int) (hv : Inv N M τ) (hM : 0 ≤ M) (h0 : τ 31 0 0 = 0) (hr_k : -2147483648 ≤ k ∧ k < 2147483648) : Inv (N + 1) (M + 300) (stp (cd_next τ k) τ τ) ∧ stp (cd_next τ k) τ τ 31 0 0 = cd_next τ k := by
  refine ⟨stp_Inv hv (by omega) (by omega) (fun z => ?_), stp_31 h0 (fun z => ?_)⟩
  · have hA := hv.A
    unfold IvA at hA
    by_cases c0 : 0 ≤ k ∧ k < τ 27 0 0
    · have hS := (hv.S k (by omega) (by omega)).1
      by_cases c1 : τ 6 k 0 = 1
      · have e : cd_next τ k = 0 := by unfold cd_next; rw [if_pos c0, if_pos c1]
        exact Inv_mono hv (by omega) (by omega)
      · have e : cd_next τ k = 2 := by unfold cd_next; rw [if_pos c0, if_neg c1]
        exact absurd (e.symm.trans z) (by decide)
    · have e : cd_next τ k = 1 := by unfold cd_next; rw [if_neg c0]
      exact absurd (e.symm.trans z) (by decide)
  · exact rfl
theorem iv_count {N M : Int} {τ : St} (k : Int) (hv : Inv N M τ) (hM : 0 ≤ M) (h0 : τ 31 0 0 = 0) (hr_k : -2147483648 ≤ k ∧ k < 2147483648) : Inv (N + 1) (M + 300) (stp (cd_count τ k) τ τ) ∧ stp (cd_count τ k) τ τ 31 0 0 = cd_count τ k := by
  refine ⟨stp_Inv hv (by omega) (by omega) (fun z => ?_), stp_31 h0 (fun z => ?_)⟩
  · have hA := hv.A
    unfold IvA at hA
    by_cases c0 : 0 ≤ k ∧ k < τ 27 0 0
    · have hS := (hv.S k (by omega) (by omega)).1
      by_cases c1 : τ 6 k 0 = 1
      · have e : cd_count τ k = 0 := by unfold cd_count; rw [if_pos c0, if_pos c1]
        exact Inv_mono hv (by omega) (by omega)
      · have e : cd_count τ k = 2 := by unfold cd_count; rw [if_pos c0, if_neg c1]
        exact absurd (e.symm.trans z) (by decide)
    · have e : cd_count τ k = 1 := by unfold cd_count; rw [if_neg c0]
      exact absurd (e.symm.trans z) (by decide)
  · exact rfl
theorem iv_waits {N M : Int} {τ : St} (k : Int) (hv : Inv N M τ) (hM : 0 ≤ M) (h0 : τ 31 0 0 = 0) (hr_k : -2147483648 ≤ k ∧ k < 2147483648) : Inv (N + 1) (M + 300) (stp (cd_waits τ k) τ τ) ∧ stp (cd_waits τ k) τ τ 31 0 0 = cd_waits τ k := by
  refine ⟨stp_Inv hv (by omega) (by omega) (fun z => ?_), stp_31 h0 (fun z => ?_)⟩
  · have hA := hv.A
    unfold IvA at hA
    by_cases c0 : 0 ≤ k ∧ k < τ 27 0 0
    · have hS := (hv.S k (by omega) (by omega)).1
      by_cases c1 : τ 6 k 0 = 1
      · have e : cd_waits τ k = 0 := by unfold cd_waits; rw [if_pos c0, if_pos c1]
        exact Inv_mono hv (by omega) (by omega)
      · have e : cd_waits τ k = 2 := by unfold cd_waits; rw [if_pos c0, if_neg c1]
        exact absurd (e.symm.trans z) (by decide)
    · have e : cd_waits τ k = 1 := by unfold cd_waits; rw [if_neg c0]
      exact absurd (e.symm.trans z) (by decide)
  · exact rfl
theorem iv_tick {N M : Int} {τ : St} (n : Int) (hv : Inv N M τ) (hM : 0 ≤ M) (h0 : τ 31 0 0 = 0) (hr_n : -2147483648 ≤ n ∧ n < 2147483648) : Inv (N + 1) (M + 300) (stp (cd_tick τ n) (fTick n.toNat (ups τ 30 0 0 0)) τ) ∧ stp (cd_tick τ n) (fTick n.toNat (ups τ 30 0 0 0)) τ 31 0 0 = cd_tick τ n := by
  refine ⟨stp_Inv hv (by omega) (by omega) (fun z => ?_), stp_31 h0 (fun z => ?_)⟩
  · have hA := hv.A
    unfold IvA at hA
    by_cases c0 : 1 ≤ n ∧ n ≤ 50
    · have e : cd_tick τ n = 0 := by unfold cd_tick; rw [if_pos c0]
      exact Inv_mono (Inv_fTick n.toNat (Inv_o30 hv)) (by omega) (by omega)
    · have e : cd_tick τ n = 1 := by unfold cd_tick; rw [if_neg c0]
      exact absurd (e.symm.trans z) (by decide)
  · exact (fTick_31 _ _).trans (ups_T _ _ _ _ _ 31 (by decide))
theorem iv_slide {N M : Int} {τ : St} (k : Int) (hv : Inv N M τ) (hM : 0 ≤ M) (h0 : τ 31 0 0 = 0) (hr_k : -2147483648 ≤ k ∧ k < 2147483648) : Inv (N + 1) (M + 300) (stp (cd_slide τ k) τ τ) ∧ stp (cd_slide τ k) τ τ 31 0 0 = cd_slide τ k := by
  refine ⟨stp_Inv hv (by omega) (by omega) (fun z => ?_), stp_31 h0 (fun z => ?_)⟩
  · have hA := hv.A
    unfold IvA at hA
    by_cases c0 : 0 ≤ k ∧ k < τ 27 0 0
    · by_cases c1 : τ 15 k 0 ≠ -1
      · have e : cd_slide τ k = 0 := by unfold cd_slide; rw [if_pos c0, if_pos c1]
        exact Inv_mono hv (by omega) (by omega)
      · have e : cd_slide τ k = 2 := by unfold cd_slide; rw [if_pos c0, if_neg c1]
        exact absurd (e.symm.trans z) (by decide)
    · have e : cd_slide τ k = 1 := by unfold cd_slide; rw [if_neg c0]
      exact absurd (e.symm.trans z) (by decide)
  · exact rfl
theorem iv_holder {N M : Int} {τ : St} (d : Int) (hv : Inv N M τ) (hM : 0 ≤ M) (h0 : τ 31 0 0 = 0) (hr_d : -2147483648 ≤ d ∧ d < 2147483648) : Inv (N + 1) (M + 300) (stp (cd_holder τ d) τ τ) ∧ stp (cd_holder τ d) τ τ 31 0 0 = cd_holder τ d := by
  refine ⟨stp_Inv hv (by omega) (by omega) (fun z => ?_), stp_31 h0 (fun z => ?_)⟩
  · have hA := hv.A
    unfold IvA at hA
    by_cases c0 : 0 ≤ d ∧ d < 6
    · by_cases c1 : τ 18 d 0 ≠ -1
      · have e : cd_holder τ d = 0 := by unfold cd_holder; rw [if_pos c0, if_pos c1]
        exact Inv_mono hv (by omega) (by omega)
      · have e : cd_holder τ d = 2 := by unfold cd_holder; rw [if_pos c0, if_neg c1]
        exact absurd (e.symm.trans z) (by decide)
    · have e : cd_holder τ d = 1 := by unfold cd_holder; rw [if_neg c0]
      exact absurd (e.symm.trans z) (by decide)
  · exact rfl
theorem iv_queued {N M : Int} {τ : St} (d j : Int) (hv : Inv N M τ) (hM : 0 ≤ M) (h0 : τ 31 0 0 = 0) (hr_d : -2147483648 ≤ d ∧ d < 2147483648) (hr_j : -2147483648 ≤ j ∧ j < 2147483648) : Inv (N + 1) (M + 300) (stp (cd_queued τ d j) τ τ) ∧ stp (cd_queued τ d j) τ τ 31 0 0 = cd_queued τ d j := by
  refine ⟨stp_Inv hv (by omega) (by omega) (fun z => ?_), stp_31 h0 (fun z => ?_)⟩
  · have hA := hv.A
    unfold IvA at hA
    by_cases c0 : 0 ≤ d ∧ d < 6
    · by_cases c1 : 0 ≤ j ∧ j < τ 17 (6 + d) 0
      · have e : cd_queued τ d j = 0 := by unfold cd_queued; rw [if_pos c0, if_pos c1]
        exact Inv_mono hv (by omega) (by omega)
      · have e : cd_queued τ d j = 2 := by unfold cd_queued; rw [if_pos c0, if_neg c1]
        exact absurd (e.symm.trans z) (by decide)
    · have e : cd_queued τ d j = 1 := by unfold cd_queued; rw [if_neg c0]
      exact absurd (e.symm.trans z) (by decide)
  · exact rfl
theorem iv_visitor {N M : Int} {τ : St} (hv : Inv N M τ) (hM : 0 ≤ M) (h0 : τ 31 0 0 = 0) : Inv (N + 1) (M + 300) (stp (cd_visitor τ) (ups τ 28 0 0 (τ 28 0 0 + 1)) τ) ∧ stp (cd_visitor τ) (ups τ 28 0 0 (τ 28 0 0 + 1)) τ 31 0 0 = cd_visitor τ := by
  refine ⟨stp_Inv hv (by omega) (by omega) (fun z => ?_), stp_31 h0 (fun z => ?_)⟩
  · have hA := hv.A
    unfold IvA at hA
    by_cases c0 : τ 28 0 0 < 10
    · have e : cd_visitor τ = 0 := by unfold cd_visitor; rw [if_pos c0]
      exact Inv_mono (Inv_visitor hv (by omega)) (by omega) (by omega)
    · have e : cd_visitor τ = 1 := by unfold cd_visitor; rw [if_neg c0]
      exact absurd (e.symm.trans z) (by decide)
  · exact ups_T _ _ _ _ _ 31 (by decide)
theorem iv_go {N M : Int} {τ : St} (v k : Int) (hv : Inv N M τ) (hM : 0 ≤ M) (h0 : τ 31 0 0 = 0) (hr_v : -2147483648 ≤ v ∧ v < 2147483648) (hr_k : -2147483648 ≤ k ∧ k < 2147483648) : Inv (N + 1) (M + 300) (stp (cd_go τ v k) (ups τ 22 v 0 k) τ) ∧ stp (cd_go τ v k) (ups τ 22 v 0 k) τ 31 0 0 = cd_go τ v k := by
  refine ⟨stp_Inv hv (by omega) (by omega) (fun z => ?_), stp_31 h0 (fun z => ?_)⟩
  · have hA := hv.A
    unfold IvA at hA
    by_cases c0 : 0 ≤ v ∧ v < τ 28 0 0
    · by_cases c1 : k = -1 ∨ (0 ≤ k ∧ k < τ 27 0 0)
      · have e : cd_go τ v k = 0 := by unfold cd_go; rw [if_pos c0, if_pos c1]
        exact Inv_mono (Inv_go hv (by omega)) (by omega) (by omega)
      · have e : cd_go τ v k = 1 := by unfold cd_go; rw [if_pos c0, if_neg c1]
        exact absurd (e.symm.trans z) (by decide)
    · have e : cd_go τ v k = 1 := by unfold cd_go; rw [if_neg c0]
      exact absurd (e.symm.trans z) (by decide)
  · exact ups_T _ _ _ _ _ 31 (by decide)
theorem iv_ask {N M : Int} {τ : St} (v n : Int) (hv : Inv N M τ) (hM : 0 ≤ M) (h0 : τ 31 0 0 = 0) (hr_v : -2147483648 ≤ v ∧ v < 2147483648) (hr_n : -2147483648 ≤ n ∧ n < 2147483648) : Inv (N + 1) (M + 300) (stp (cd_ask τ v n) (ups (ups τ 21 v n 1) 20 v n (τ 20 v n + 1)) τ) ∧ stp (cd_ask τ v n) (ups (ups τ 21 v n 1) 20 v n (τ 20 v n + 1)) τ 31 0 0 = cd_ask τ v n := by
  refine ⟨stp_Inv hv (by omega) (by omega) (fun z => ?_), stp_31 h0 (fun z => ?_)⟩
  · have hA := hv.A
    unfold IvA at hA
    by_cases c0 : 0 ≤ v ∧ v < τ 28 0 0
    · by_cases c1 : 0 ≤ n ∧ n < 100
      · have e : cd_ask τ v n = 0 := by unfold cd_ask; rw [if_pos c0, if_pos c1]
        exact Inv_mono (Inv_ask hv) (by omega) (by omega)
      · have e : cd_ask τ v n = 2 := by unfold cd_ask; rw [if_pos c0, if_neg c1]
        exact absurd (e.symm.trans z) (by decide)
    · have e : cd_ask τ v n = 1 := by unfold cd_ask; rw [if_neg c0]
      exact absurd (e.symm.trans z) (by decide)
  · exact com (upsW _ 21 _ _ _ (by decide)) (upsW _ 20 _ _ _ (by decide)) 31 (show 31 ∉ [20, 21] by decide)
theorem iv_saw {N M : Int} {τ : St} (v n : Int) (hv : Inv N M τ) (hM : 0 ≤ M) (h0 : τ 31 0 0 = 0) (hr_v : -2147483648 ≤ v ∧ v < 2147483648) (hr_n : -2147483648 ≤ n ∧ n < 2147483648) : Inv (N + 1) (M + 300) (stp (cd_saw τ v n) τ τ) ∧ stp (cd_saw τ v n) τ τ 31 0 0 = cd_saw τ v n := by
  refine ⟨stp_Inv hv (by omega) (by omega) (fun z => ?_), stp_31 h0 (fun z => ?_)⟩
  · have hA := hv.A
    unfold IvA at hA
    by_cases c0 : 0 ≤ v ∧ v < τ 28 0 0
    · by_cases c1 : 0 ≤ n ∧ n < 100
      · have e : cd_saw τ v n = 0 := by unfold cd_saw; rw [if_pos c0, if_pos c1]
        exact Inv_mono hv (by omega) (by omega)
      · have e : cd_saw τ v n = 2 := by unfold cd_saw; rw [if_pos c0, if_neg c1]
        exact absurd (e.symm.trans z) (by decide)
    · have e : cd_saw τ v n = 1 := by unfold cd_saw; rw [if_neg c0]
      exact absurd (e.symm.trans z) (by decide)
  · exact rfl
theorem iv_meanSeen {N M : Int} {τ : St} (hv : Inv N M τ) (hM : 0 ≤ M) (h0 : τ 31 0 0 = 0) : Inv (N + 1) (M + 300) (stp (cd_meanSeen τ) τ τ) ∧ stp (cd_meanSeen τ) τ τ 31 0 0 = cd_meanSeen τ := by
  refine ⟨stp_Inv hv (by omega) (by omega) (fun z => ?_), stp_31 h0 (fun z => ?_)⟩
  · have hA := hv.A
    unfold IvA at hA
    by_cases c0 : 0 < τ 28 0 0
    · have e : cd_meanSeen τ = 0 := by unfold cd_meanSeen; rw [if_pos c0]
      exact Inv_mono hv (by omega) (by omega)
    · have e : cd_meanSeen τ = 1 := by unfold cd_meanSeen; rw [if_neg c0]
      exact absurd (e.symm.trans z) (by decide)
  · exact rfl
end WRAPDEFS
