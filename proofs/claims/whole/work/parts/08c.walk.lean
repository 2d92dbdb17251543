section M12X
set_option maxHeartbeats 4000000 in
set_option maxRecDepth 100000 in
theorem n_thaw_x {l : Launch} {Dg : va_G} {cA : Nat → ClassId} {ad : Nat → Int → Nat} {oc : Nat → Nat} (hI : WI mcnt ad) {N M : Int} (σ : St) (k : Int) (hv : Inv N M σ) (h1 : ¬ (0 ≤ k ∧ k < σ 27 0 0)) (hxr : -2147483648 ≤ k ∧ k < 2147483648) : GI l yX8_thaw wsX8_thaw ({ frames := 2, cells := 0, slots := 0, locals := 43 } : Room) Dg cA mcnt ad oc (mE cA ad σ) [.ref (ad 0 0), .int (zi k)] 0 (mE cA ad (ups σ 31 0 0 1)) := by
  intro sz
  refine g_ent (cc := cX8_thaw) (maxL := 5) (ret := (some .int)) (by decide) rfl hI (Nat.le_of_ble_eq_true rfl) ?_
  intro pgm env s₀ m₀ bel mth cod hX hW hS hsz ls hl
  subst hsz
  have hC := hX.1
  have hx := hC.1
  have hb := hC.2.1
  have hts := hC.2.2.2.1
  have hl : lv_has ls 5 [(0, .ref (ad 0 0)), (1, .int (zi k))] := hl
  have hA := hv.A
  unfold IvA at hA
  refine lv_aload_n hx hb dX8_thaw_0 rfl (lv_at hl 0 rfl) ?_
  refine lv_aload_n hx hb dX8_thaw_1 rfl (lv_at hl 0 rfl) ?_
  refine lv_iload_n hx hb dX8_thaw_2 rfl (lv_at hl 1 rfl) ?_
  refine k_callI (As := [.int (zi k)]) (rest := [.ref (ad 0 0)]) hX hl.1 (n_isKiosk hI σ k (by omega) (by omega)) (cwV 1 hts gX8_thaw_X8_isKiosk rfl rfl rfl (by decide +kernel) ⟨Nat.le_of_ble_eq_true rfl, Nat.le_of_ble_eq_true rfl⟩) (rc_M hC hW) hW hS ⟨Nat.zero_le _, Nat.zero_le _⟩ rfl rfl (Nat.le_of_ble_eq_true rfl) dX8_thaw_3 (fun H locs hW hS _ _ => ?_)
  refine k_if_ne (tgt := 13) hC dX8_thaw_6 (by decide) (by omega) (fun c1 => absurd c1 (by omega)) (fun c1 => ?_)
  refine k_iconst hC dX8_thaw_9 ?_
  refine lv_goto (tgt := 14) hx hb dX8_thaw_10 (by decide) ?_
  refine k_iconst hC dX8_thaw_14 ?_
  refine k_callI (As := [.int (zi 1), .int (zi 1)]) (rest := []) hX hl.1 (n_thr1 hI σ 1 (by omega)) (cwV 2 hts gX8_thaw_X8_isThrown rfl rfl rfl (by decide +kernel) ⟨Nat.le_of_ble_eq_true rfl, Nat.le_of_ble_eq_true rfl⟩) (rc_M hC hW) hW hS ⟨Nat.zero_le _, Nat.zero_le _⟩ rfl rfl (Nat.le_of_ble_eq_true rfl) dX8_thaw_15 (fun H locs hW hS _ _ => ?_)
  obtain ⟨σ1, hσ1⟩ : ∃ z, z = ups σ 31 0 0 1 := ⟨_, rfl⟩
  rw [← hσ1] at hW
  refine k_if_eq (tgt := 23) hC dX8_thaw_18 (by decide) (by omega) (fun c2 => absurd c2 (by omega)) (fun c2 => ?_)
  refine k_iconst hC dX8_thaw_21 ?_
  have hW : WP Dg mcnt ad (mE cA ad (ups σ 31 0 0 1)) _ := (sw hW (by first | (rw [hσ1]; done) | (rw [hσ1]; exact ups_ups _ _ _ _ _ _) | (rw [hσ1, ups_ups, ups_ups]; done)))
  exact k_iret hX rfl hW hS dX8_thaw_22
end M12X
