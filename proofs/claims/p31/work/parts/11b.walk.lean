section N1
set_option maxHeartbeats 4000000 in
set_option maxRecDepth 100000 in
theorem n_copy {l : Launch} {Dg : va_G} {cA : Nat → ClassId} {ad : Nat → Int → Nat} {oc : Nat → Nat} (hI : WI ncnt ad) (σ : St) (q t : Int) (hq : 0 ≤ q ∧ q < 3) (ht : 1000 ≤ t ∧ t ≤ 1150) : GV l yL_copy wsL_copy ({ frames := 0, cells := 0, slots := 0, locals := 0 } : Room) Dg cA ncnt ad oc (nE cA ad σ) [.ref (ad 20 0), .int (zi (50 * q)), .int (zi t)] (nE cA ad (nCopy σ q t)) := by
  intro sz
  refine g_ent (cc := cL_copy) (maxL := 4) (ret := none) (by decide) rfl hI (Nat.le_of_ble_eq_true rfl) ?_
  intro pgm env s₀ m₀ bel mth cod hX hW hS hsz ls hl
  subst hsz
  have hC := hX.1
  have hx := hC.1
  have hb := hC.2.1
  have hts := hC.2.2.2.1
  have hl : lv_has ls 4 [(0, .ref (ad 20 0)), (1, .int (zi (50 * q))), (2, .int (zi t))] := hl
  refine k_iconst hC dL_copy_0 ?_
  refine lv_istore_n (lv' := [(3, .int (zi 0)), (0, .ref (ad 20 0)), (1, .int (zi (50 * q))), (2, .int (zi t))]) hx hb dL_copy_1 rfl hl (by decide) rfl (fun ls hl => ?_)
  have loop_2 : ∀ (fuel : Nat) (k : Int), 48 - k < (fuel : Int) → (0 ≤ k ∧ k ≤ 48) → ∀ (H : Heap) (locs : List Loc), WP Dg ncnt ad (nE cA ad (nCpP σ (50 * q) t k)) H → va_S (WA ncnt ad s₀.heap.size) s₀.heap H locs → ∀ ls : Array Slot, lv_has ls 4 [(3, .int (zi k)), (0, .ref (ad 20 0)), (1, .int (zi (50 * q))), (2, .int (zi t))] → W pgm l env ({ frames := 0, cells := 0, slots := 0, locals := 0 } : Room) s₀ m₀ ([.ref (ad 20 0), .int (zi (50 * q)), .int (zi t)] : List Value).toArray bel mth cod H locs 0 0 (MQ bel (va_Qv (fun _ : Unit => True) (gB Dg ncnt ad (nE cA ad (nCopy σ q t))) (WA ncnt ad s₀.heap.size)) ([.ref (ad 20 0), .int (zi (50 * q)), .int (zi t)] : List Value).toArray s₀ 0 0 (WA ncnt ad s₀.heap.size)) (F0 m₀ 2 ls []) := by
    intro fuel
    induction fuel with
    | zero => intro k hn i1; exact absurd hn (by omega)
    | succ fuel ih_2 =>
      intro k hn i1 H locs hW hS ls hl
      obtain ⟨σ1, hσ1⟩ : ∃ z, z = nCpP σ (50 * q) t k := ⟨_, rfl⟩
      rw [← hσ1] at hW
      refine lv_iload_n hx hb dL_copy_2 rfl (lv_at hl 0 rfl) ?_
      refine k_bipush hC dL_copy_3 (by decide) ?_
      refine k_icmp_ge (tgt := 24) hC dL_copy_5 (by decide) (by omega) (fun c1 => ?_) (fun c1 => ?_)
      · refine lv_aload_n hx hb dL_copy_24 rfl (lv_at hl 1 rfl) ?_
        refine lv_iload_n hx hb dL_copy_25 rfl (lv_at hl 3 rfl) ?_
        refine k_bipush hC dL_copy_26 (by decide) ?_
        refine k_iadd hC dL_copy_28 ?_
        refine lv_iload_n hx hb dL_copy_29 rfl (lv_at hl 2 rfl) ?_
        refine k_bipush hC dL_copy_30 (by decide) ?_
        refine k_idiv50 hC dL_copy_32 (by omega) ?_
        refine ns_net hC hW (by omega) hS dL_copy_33 (fun H locs hW hS => ?_)
        obtain ⟨σ2, hσ2⟩ : ∃ z, z = ups σ1 40 (t + 48) 0 q := ⟨_, rfl⟩
        rw [← hσ2] at hW
        refine lv_aload_n hx hb dL_copy_34 rfl (lv_at hl 1 rfl) ?_
        refine lv_iload_n hx hb dL_copy_35 rfl (lv_at hl 3 rfl) ?_
        refine k_bipush hC dL_copy_36 (by decide) ?_
        refine k_iadd hC dL_copy_38 ?_
        refine k_iconst hC dL_copy_39 ?_
        refine ns_net hC hW (by omega) hS dL_copy_40 (fun H locs hW hS => ?_)
        obtain ⟨σ3, hσ3⟩ : ∃ z, z = ups σ2 40 (t + 49) 0 0 := ⟨_, rfl⟩
        rw [← hσ3] at hW
        have hW : WP Dg ncnt ad (nE cA ad (nCopy σ q t)) _ := (sw hW (by rw [hσ3, hσ2, hσ1, show k = 48 by omega]; rfl))
        exact k_vret hX hW hS dL_copy_41
      · refine lv_aload_n hx hb dL_copy_8 rfl (lv_at hl 1 rfl) ?_
        refine lv_iload_n hx hb dL_copy_9 rfl (lv_at hl 3 rfl) ?_
        refine lv_iload_n hx hb dL_copy_10 rfl (lv_at hl 0 rfl) ?_
        refine k_iadd hC dL_copy_11 ?_
        refine lv_aload_n hx hb dL_copy_12 rfl (lv_at hl 1 rfl) ?_
        refine lv_iload_n hx hb dL_copy_13 rfl (lv_at hl 2 rfl) ?_
        refine lv_iload_n hx hb dL_copy_14 rfl (lv_at hl 0 rfl) ?_
        refine k_iadd hC dL_copy_15 ?_
        refine na_net hC hW (by omega) (v := σ 40 (50 * q + k) 0) (by rw [hσ1, nCpP_rd _ (by omega)]) dL_copy_16 ?_
        refine ns_net hC hW (by omega) hS dL_copy_17 (fun H locs hW hS => ?_)
        obtain ⟨σ4, hσ4⟩ : ∃ z, z = ups σ1 40 (t + k) 0 (σ 40 (50 * q + k) 0) := ⟨_, rfl⟩
        rw [← hσ4] at hW
        refine k_iinc (a := k) (lv' := [(3, .int (zi (k + 1))), (0, .ref (ad 20 0)), (1, .int (zi (50 * q))), (2, .int (zi t))]) hC dL_copy_18 hl (k := 0) rfl (by decide) rfl (fun ls hl => ?_)
        refine lv_goto (tgt := 2) hx hb dL_copy_21 (by decide) ?_
        have hl := Eq.mp (congrArg (fun z : Int => lv_has ls 4 [(3, .int (zi z)), (0, .ref (ad 20 0)), (1, .int (zi (50 * q))), (2, .int (zi t))]) (show (k + 1 : Int) = (k + 1) by omega)) hl
        exact ih_2 (k + 1) (by omega) (by omega) _ _ (sw hW (by rw [hσ4, hσ1]; exact nCpP_s σ i1.1)) hS _ (lv_sub hl [0, 1, 2, 3] rfl)
  exact loop_2 (Int.toNat (48 - 0) + 1) 0 (by omega) (by omega) _ _ (sw hW (nCpP_0 σ (50 * q) t).symm) hS _ (lv_sub hl [0, 1, 2, 3] rfl)
set_option maxHeartbeats 4000000 in
set_option maxRecDepth 100000 in
theorem n_turn {l : Launch} {Dg : va_G} {cA : Nat → ClassId} {ad : Nat → Int → Nat} {oc : Nat → Nat} (hI : WI ncnt ad) {N M : Int} {κ : St} (σ : St) (hv : Inv N M κ) (hR : R1 κ σ) : GV l yL_turn wsL_turn ({ frames := 1, cells := 0, slots := 0, locals := 23 } : Room) Dg cA ncnt ad oc (nE cA ad σ) [.ref (ad 20 0), .ref (ad 21 0)] (nE cA ad (nTurn σ)) := by
  intro sz
  refine g_ent (cc := cL_turn) (maxL := 8) (ret := none) (by decide) rfl hI (Nat.le_of_ble_eq_true rfl) ?_
  intro pgm env s₀ m₀ bel mth cod hX hW hS hsz ls hl
  subst hsz
  have hC := hX.1
  have hx := hC.1
  have hb := hC.2.1
  have hts := hC.2.2.2.1
  have hl : lv_has ls 8 [(0, .ref (ad 20 0)), (1, .ref (ad 21 0))] := hl
  obtain ⟨f0, f1, f2, f3, f4, f5, f6⟩ := n_rng hv hR
  refine lv_aload_n hx hb dL_turn_0 rfl (lv_at hl 1 rfl) ?_
  refine k_iconst hC dL_turn_1 ?_
  refine na_h hC hW (by omega) (v := σ 41 2 0) rfl dL_turn_2 ?_
  refine k_if_le (tgt := 14) hC dL_turn_3 (by decide) (by omega) (fun c1 => ?_) (fun c1 => ?_)
  · refine k_iconst hC dL_turn_14 ?_
    refine lv_istore_n (lv' := [(2, .int (zi 0)), (0, .ref (ad 20 0)), (1, .ref (ad 21 0))]) hx hb dL_turn_15 rfl hl (by decide) rfl (fun ls hl => ?_)
    have loop_16 : ∀ (fuel : Nat) (υ : St) (κ1 : St) (n : Int) (K : Nat), 2 * (8 - n) + υ 41 0 0 < (fuel : Int) → (0 ≤ n ∧ n ≤ 8) → (nLoop K n υ = nTurn σ) → (Inv N M κ1) → (R1 κ1 υ) → (2 * (8 - n) + υ 41 0 0 < (K : Int)) → ∀ (H : Heap) (locs : List Loc), WP Dg ncnt ad (nE cA ad υ) H → va_S (WA ncnt ad s₀.heap.size) s₀.heap H locs → ∀ ls : Array Slot, lv_has ls 8 [(2, .int (zi n)), (1, .ref (ad 21 0)), (0, .ref (ad 20 0))] → W pgm l env ({ frames := 1, cells := 0, slots := 0, locals := 23 } : Room) s₀ m₀ ([.ref (ad 20 0), .ref (ad 21 0)] : List Value).toArray bel mth cod H locs 0 0 (MQ bel (va_Qv (fun _ : Unit => True) (gB Dg ncnt ad (nE cA ad (nTurn σ))) (WA ncnt ad s₀.heap.size)) ([.ref (ad 20 0), .ref (ad 21 0)] : List Value).toArray s₀ 0 0 (WA ncnt ad s₀.heap.size)) (F0 m₀ 16 ls []) := by
      intro fuel
      induction fuel with
      | zero => intro υ κ1 n K hn i1 i2 i3 i4 i5; exact absurd hn (by (obtain ⟨f0, -⟩ := n_rng i3 i4; omega))
      | succ fuel ih_16 =>
        intro υ κ1 n K hn i1 i2 i3 i4 i5 H locs hW hS ls hl
        obtain ⟨f0, f1, f2, f3, f4, f5, f6⟩ := n_rng i3 i4
        obtain ⟨K1, rfl⟩ : ∃ K9, K = K9 + 1 := ⟨K - 1, by omega⟩
        refine lv_iload_n hx hb dL_turn_16 rfl (lv_at hl 0 rfl) ?_
        refine k_bipush hC dL_turn_17 (by decide) ?_
        refine k_icmp_ge (tgt := 310) hC dL_turn_19 (by decide) (by omega) (fun c2 => ?_) (fun c2 => ?_)
        · have hW : WP Dg ncnt ad (nE cA ad (nTurn σ)) _ := (sw hW (by rw [← i2, nLoop_0 (by omega)]))
          exact k_vret hX hW hS dL_turn_310
        · refine k_sipush hC dL_turn_22 (by decide) ?_
          refine k_bipush hC dL_turn_25 (by decide) ?_
          refine lv_aload_n hx hb dL_turn_27 rfl (lv_at hl 1 rfl) ?_
          refine k_iconst hC dL_turn_28 ?_
          refine na_h hC hW (by omega) (v := υ 41 0 0) rfl dL_turn_29 ?_
          refine k_iconst hC dL_turn_30 ?_
          refine k_isub hC dL_turn_31 ?_
          refine k_imul hC dL_turn_32 ?_
          refine k_iadd hC dL_turn_33 ?_
          refine k_top0 (show (1000 + (50 * ((υ 41 0 0) - 1)) : Int) = nTop υ from rfl) ?_
          refine lv_istore_n (lv' := [(3, .int (zi (nTop υ))), (2, .int (zi n)), (1, .ref (ad 21 0)), (0, .ref (ad 20 0))]) hx hb dL_turn_34 rfl hl (by decide) rfl (fun ls hl => ?_)
          refine lv_aload_n hx hb dL_turn_35 rfl (lv_at hl 3 rfl) ?_
          refine lv_iload_n hx hb dL_turn_36 rfl (lv_at hl 0 rfl) ?_
          refine k_bipush hC dL_turn_37 (by decide) ?_
          refine k_iadd hC dL_turn_39 ?_
          refine na_net hC hW (by omega) (v := υ 40 ((nTop υ) + 49) 0) rfl dL_turn_40 ?_
          refine lv_istore (lv' := [(4, .int (zi (υ 40 ((nTop υ) + 49) 0))), (3, .int (zi (nTop υ))), (2, .int (zi n)), (1, .ref (ad 21 0)), (0, .ref (ad 20 0))]) hx hb dL_turn_41 hl (by decide) rfl (fun ls hl => ?_)
          refine lv_iload hx hb dL_turn_43 (lv_at hl 0 rfl) ?_
          refine lv_aload_n hx hb dL_turn_45 rfl (lv_at hl 4 rfl) ?_
          refine lv_iload_n hx hb dL_turn_46 rfl (lv_at hl 1 rfl) ?_
          refine na_net hC hW (by omega) (v := υ 40 (nTop υ) 0) rfl dL_turn_47 ?_
          refine k_icmp_lt (tgt := 68) hC dL_turn_48 (by decide) (by omega) (fun c3 => ?_) (fun c3 => ?_)
          · refine k_iinc (a := n) (lv' := [(2, .int (zi (n + 1))), (4, .int (zi (υ 40 ((nTop υ) + 49) 0))), (3, .int (zi (nTop υ))), (1, .ref (ad 21 0)), (0, .ref (ad 20 0))]) hC dL_turn_68 hl (k := 2) rfl (by decide) rfl (fun ls hl => ?_)
            refine lv_aload_n hx hb dL_turn_71 rfl (lv_at hl 3 rfl) ?_
            refine k_iconst hC dL_turn_72 ?_
            refine lv_dup2_11 hx hb dL_turn_73 rfl rfl ?_
            refine na_h hC hW (by omega) (v := υ 41 5 0) rfl dL_turn_74 ?_
            refine k_iconst hC dL_turn_75 ?_
            refine k_iadd hC dL_turn_76 ?_
            refine ns_h hC hW (by omega) hS dL_turn_77 (fun H locs hW hS => ?_)
            obtain ⟨σ1, hσ1⟩ : ∃ z, z = ups υ 41 5 0 ((υ 41 5 0) + 1) := ⟨_, rfl⟩
            rw [← hσ1] at hW
            refine lv_iload hx hb dL_turn_78 (lv_at hl 1 rfl) ?_
            refine lv_aload_n hx hb dL_turn_80 rfl (lv_at hl 4 rfl) ?_
            refine lv_iload_n hx hb dL_turn_81 rfl (lv_at hl 2 rfl) ?_
            refine na_net hC hW (by omega) (v := υ 40 (nTop υ) 0) (by rw [hσ1, ups_t _ (by decide)]) dL_turn_82 ?_
            refine k_icmp_lt (tgt := 103) hC dL_turn_83 (by decide) (by omega) (fun c4 => ?_) (fun c4 => absurd c4 (by omega))
            refine lv_aload_n hx hb dL_turn_103 rfl (lv_at hl 4 rfl) ?_
            refine lv_iload_n hx hb dL_turn_104 rfl (lv_at hl 2 rfl) ?_
            refine k_iconst hC dL_turn_105 ?_
            refine k_iadd hC dL_turn_106 ?_
            refine k_iconst hC dL_turn_107 ?_
            refine lv_iload hx hb dL_turn_108 (lv_at hl 1 rfl) ?_
            refine k_imul hC dL_turn_110 ?_
            refine k_iadd hC dL_turn_111 ?_
            refine na_net hC hW (by omega) (v := υ 40 (((nTop υ) + 1) + (2 * (υ 40 ((nTop υ) + 49) 0))) 0) (by rw [hσ1, ups_t _ (by decide)]) dL_turn_112 ?_
            refine lv_istore (lv' := [(5, .int (zi (υ 40 (((nTop υ) + 1) + (2 * (υ 40 ((nTop υ) + 49) 0))) 0))), (2, .int (zi (n + 1))), (4, .int (zi (υ 40 ((nTop υ) + 49) 0))), (3, .int (zi (nTop υ))), (1, .ref (ad 21 0)), (0, .ref (ad 20 0))]) hx hb dL_turn_113 hl (by decide) rfl (fun ls hl => ?_)
            refine lv_aload_n hx hb dL_turn_115 rfl (lv_at hl 5 rfl) ?_
            refine lv_iload_n hx hb dL_turn_116 rfl (lv_at hl 3 rfl) ?_
            refine k_iconst hC dL_turn_117 ?_
            refine k_iadd hC dL_turn_118 ?_
            refine k_iconst hC dL_turn_119 ?_
            refine lv_iload hx hb dL_turn_120 (lv_at hl 2 rfl) ?_
            refine k_imul hC dL_turn_122 ?_
            refine k_iadd hC dL_turn_123 ?_
            refine na_net hC hW (by omega) (v := υ 40 (((nTop υ) + 2) + (2 * (υ 40 ((nTop υ) + 49) 0))) 0) (by rw [hσ1, ups_t _ (by decide)]) dL_turn_124 ?_
            refine lv_istore (lv' := [(6, .int (zi (υ 40 (((nTop υ) + 2) + (2 * (υ 40 ((nTop υ) + 49) 0))) 0))), (5, .int (zi (υ 40 (((nTop υ) + 1) + (2 * (υ 40 ((nTop υ) + 49) 0))) 0))), (2, .int (zi (n + 1))), (4, .int (zi (υ 40 ((nTop υ) + 49) 0))), (3, .int (zi (nTop υ))), (1, .ref (ad 21 0)), (0, .ref (ad 20 0))]) hx hb dL_turn_125 hl (by decide) rfl (fun ls hl => ?_)
            have e9 : ¬ nEnd υ := fun z => by have z : υ 40 (nTop υ) 0 ≤ υ 40 (nTop υ + 49) 0 := z; omega
            have ec9 : ¬ atEnd κ1 0 := fun z => e9 ((end_iff i4).mpr z)
            obtain ⟨a1, a2, a3, -⟩ := ahead i3 i4 ec9
            rw [← a1, ← a2] at a3
            have hR := (R1_line i3 i4 (fun z => ec9 z.2)).1
            have hD := nDo_go e9
            have hO := nO_iff υ
            obtain ⟨kv, hkv⟩ : ∃ z, z = nK υ := ⟨_, rfl⟩
            obtain ⟨nv, hnv⟩ : ∃ z, z = nN υ := ⟨_, rfl⟩
            rw [← hkv, ← hnv] at a3
            rw [← hkv, ← hnv] at hD
            rw [← hkv] at hO
            have hl := Eq.mp (congrArg (fun z : Int => lv_has ls 8 [(6, .int (zi (υ 40 (((nTop υ) + 2) + (2 * (υ 40 ((nTop υ) + 49) 0))) 0))), (5, .int (zi z)), (2, .int (zi (n + 1))), (4, .int (zi (υ 40 ((nTop υ) + 49) 0))), (3, .int (zi (nTop υ))), (1, .ref (ad 21 0)), (0, .ref (ad 20 0))]) (show (υ 40 (((nTop υ) + 1) + (2 * (υ 40 ((nTop υ) + 49) 0))) 0 : Int) = kv from hkv.symm)) hl
            have hl := Eq.mp (congrArg (fun z : Int => lv_has ls 8 [(6, .int (zi z)), (5, .int (zi kv)), (2, .int (zi (n + 1))), (4, .int (zi (υ 40 ((nTop υ) + 49) 0))), (3, .int (zi (nTop υ))), (1, .ref (ad 21 0)), (0, .ref (ad 20 0))]) (show (υ 40 (((nTop υ) + 2) + (2 * (υ 40 ((nTop υ) + 49) 0))) 0 : Int) = nv from hnv.symm)) hl
            have a4 := a3
            unfold okL at a4
            rcases (show kv = 115 ∨ kv = 119 ∨ kv = 100 ∨ kv = 102 ∨ kv = 103 ∨ kv = 118 ∨ kv = 108 ∨ kv = 99 ∨ kv = 112 by omega) with rfl | rfl | rfl | rfl | rfl | rfl | rfl | rfl | rfl
            · have hE : nDo (nHd υ) = nTurn σ := (nLoop_e (by omega) (fun z => e9 z.1) (fun z => (hO.mp z).elim e9 (fun w => w (by decide)))).symm.trans i2
              refine lv_aload_n hx hb dL_turn_127 rfl (lv_at hl 6 rfl) ?_
              refine lv_iload_n hx hb dL_turn_128 rfl (lv_at hl 4 rfl) ?_
              refine k_bipush hC dL_turn_129 (by decide) ?_
              refine k_iadd hC dL_turn_131 ?_
              refine lv_dup2_11 hx hb dL_turn_132 rfl rfl ?_
              refine na_net hC hW (by omega) (v := υ 40 ((nTop υ) + 49) 0) (by rw [hσ1, ups_t _ (by decide)]) dL_turn_133 ?_
              refine k_iconst hC dL_turn_134 ?_
              refine k_iadd hC dL_turn_135 ?_
              refine ns_net hC hW (by omega) hS dL_turn_136 (fun H locs hW hS => ?_)
              obtain ⟨σ2, hσ2⟩ : ∃ z, z = ups σ1 40 ((nTop υ) + 49) 0 ((υ 40 ((nTop υ) + 49) 0) + 1) := ⟨_, rfl⟩
              rw [← hσ2] at hW
              have hD2 : nDo (nHd υ) = nObey σ2 (nTop υ) 115 nv := by rw [hD, hσ2, hσ1]
              have ec : σ2 41 1 0 = υ 41 1 0 := by rw [hσ2, ups_t _ (by decide), hσ1, ups_i _ _ _ (by decide)]
              have e0 : σ2 41 0 0 = υ 41 0 0 := by rw [hσ2, ups_t _ (by decide), hσ1, ups_i _ _ _ (by decide)]
              have e4 : σ2 41 4 0 = υ 41 4 0 := by rw [hσ2, ups_t _ (by decide), hσ1, ups_i _ _ _ (by decide)]
              have ex : σ2 40 (nTop υ + 49) 0 = υ 40 (nTop υ + 49) 0 + 1 := by rw [hσ2, ups_eq]
              refine lv_iload hx hb dL_turn_137 (lv_at hl 1 rfl) ?_
              refine k_bipush hC dL_turn_139 (by decide) ?_
              refine k_icmp_ne (tgt := 157) hC dL_turn_141 (by decide) (by omega) (fun c5 => absurd c5 (by omega)) (fun c5 => ?_)
              refine lv_aload_n hx hb dL_turn_144 rfl (lv_at hl 5 rfl) ?_
              refine k_iconst hC dL_turn_145 ?_
              refine lv_iload hx hb dL_turn_146 (lv_at hl 0 rfl) ?_
              refine ns_h hC hW (by omega) hS dL_turn_148 (fun H locs hW hS => ?_)
              obtain ⟨σ3, hσ3⟩ : ∃ z, z = ups σ2 41 3 0 nv := ⟨_, rfl⟩
              rw [← hσ3] at hW
              refine lv_aload_n hx hb dL_turn_149 rfl (lv_at hl 5 rfl) ?_
              refine k_iconst hC dL_turn_150 ?_
              refine lv_dup2_11 hx hb dL_turn_151 rfl rfl ?_
              refine na_h hC hW (by omega) (v := υ 41 4 0) (by rw [hσ3, ups_i _ _ _ (by decide), hσ2, ups_t _ (by decide), hσ1, ups_i _ _ _ (by decide)]) dL_turn_152 ?_
              refine k_iconst hC dL_turn_153 ?_
              refine k_iadd hC dL_turn_154 ?_
              refine ns_h hC hW (by omega) hS dL_turn_155 (fun H locs hW hS => ?_)
              obtain ⟨σ4, hσ4⟩ : ∃ z, z = ups σ3 41 4 0 ((υ 41 4 0) + 1) := ⟨_, rfl⟩
              rw [← hσ4] at hW
              have hW : WP Dg ncnt ad (nE cA ad (nTurn σ)) _ := (sw hW (by rw [← hE, hD2, hσ4, hσ3]; unfold nObey; rw [if_pos rfl, e4]))
              exact k_vret hX hW hS dL_turn_156
            · have hE : nDo (nHd υ) = nTurn σ := (nLoop_e (by omega) (fun z => e9 z.1) (fun z => (hO.mp z).elim e9 (fun w => w (by decide)))).symm.trans i2
              refine lv_aload_n hx hb dL_turn_127 rfl (lv_at hl 6 rfl) ?_
              refine lv_iload_n hx hb dL_turn_128 rfl (lv_at hl 4 rfl) ?_
              refine k_bipush hC dL_turn_129 (by decide) ?_
              refine k_iadd hC dL_turn_131 ?_
              refine lv_dup2_11 hx hb dL_turn_132 rfl rfl ?_
              refine na_net hC hW (by omega) (v := υ 40 ((nTop υ) + 49) 0) (by rw [hσ1, ups_t _ (by decide)]) dL_turn_133 ?_
              refine k_iconst hC dL_turn_134 ?_
              refine k_iadd hC dL_turn_135 ?_
              refine ns_net hC hW (by omega) hS dL_turn_136 (fun H locs hW hS => ?_)
              obtain ⟨σ5, hσ5⟩ : ∃ z, z = ups σ1 40 ((nTop υ) + 49) 0 ((υ 40 ((nTop υ) + 49) 0) + 1) := ⟨_, rfl⟩
              rw [← hσ5] at hW
              have hD2 : nDo (nHd υ) = nObey σ5 (nTop υ) 119 nv := by rw [hD, hσ5, hσ1]
              have ec : σ5 41 1 0 = υ 41 1 0 := by rw [hσ5, ups_t _ (by decide), hσ1, ups_i _ _ _ (by decide)]
              have e0 : σ5 41 0 0 = υ 41 0 0 := by rw [hσ5, ups_t _ (by decide), hσ1, ups_i _ _ _ (by decide)]
              have e4 : σ5 41 4 0 = υ 41 4 0 := by rw [hσ5, ups_t _ (by decide), hσ1, ups_i _ _ _ (by decide)]
              have ex : σ5 40 (nTop υ + 49) 0 = υ 40 (nTop υ + 49) 0 + 1 := by rw [hσ5, ups_eq]
              refine lv_iload hx hb dL_turn_137 (lv_at hl 1 rfl) ?_
              refine k_bipush hC dL_turn_139 (by decide) ?_
              refine k_icmp_ne (tgt := 157) hC dL_turn_141 (by decide) (by omega) (fun c6 => ?_) (fun c6 => absurd c6 (by omega))
              refine lv_iload hx hb dL_turn_157 (lv_at hl 1 rfl) ?_
              refine k_bipush hC dL_turn_159 (by decide) ?_
              refine k_icmp_ne (tgt := 172) hC dL_turn_161 (by decide) (by omega) (fun c7 => absurd c7 (by omega)) (fun c7 => ?_)
              refine lv_aload_n hx hb dL_turn_164 rfl (lv_at hl 5 rfl) ?_
              refine k_iconst hC dL_turn_165 ?_
              refine lv_iload hx hb dL_turn_166 (lv_at hl 0 rfl) ?_
              refine k_iconst hC dL_turn_168 ?_
              refine k_isub hC dL_turn_169 ?_
              refine ns_h hC hW (by omega) hS dL_turn_170 (fun H locs hW hS => ?_)
              obtain ⟨σ6, hσ6⟩ : ∃ z, z = ups σ5 41 2 0 (nv - 1) := ⟨_, rfl⟩
              rw [← hσ6] at hW
              have hW : WP Dg ncnt ad (nE cA ad (nTurn σ)) _ := (sw hW (by rw [← hE, hD2, hσ6]; unfold nObey; rw [if_neg (by decide), if_pos rfl]))
              exact k_vret hX hW hS dL_turn_171
            · have hO0 : nO υ = 0 := hO.mpr (Or.inr (by decide))
              refine lv_aload_n hx hb dL_turn_127 rfl (lv_at hl 6 rfl) ?_
              refine lv_iload_n hx hb dL_turn_128 rfl (lv_at hl 4 rfl) ?_
              refine k_bipush hC dL_turn_129 (by decide) ?_
              refine k_iadd hC dL_turn_131 ?_
              refine lv_dup2_11 hx hb dL_turn_132 rfl rfl ?_
              refine na_net hC hW (by omega) (v := υ 40 ((nTop υ) + 49) 0) (by rw [hσ1, ups_t _ (by decide)]) dL_turn_133 ?_
              refine k_iconst hC dL_turn_134 ?_
              refine k_iadd hC dL_turn_135 ?_
              refine ns_net hC hW (by omega) hS dL_turn_136 (fun H locs hW hS => ?_)
              obtain ⟨σ7, hσ7⟩ : ∃ z, z = ups σ1 40 ((nTop υ) + 49) 0 ((υ 40 ((nTop υ) + 49) 0) + 1) := ⟨_, rfl⟩
              rw [← hσ7] at hW
              have hD2 : nDo (nHd υ) = nObey σ7 (nTop υ) 100 nv := by rw [hD, hσ7, hσ1]
              have ec : σ7 41 1 0 = υ 41 1 0 := by rw [hσ7, ups_t _ (by decide), hσ1, ups_i _ _ _ (by decide)]
              have e0 : σ7 41 0 0 = υ 41 0 0 := by rw [hσ7, ups_t _ (by decide), hσ1, ups_i _ _ _ (by decide)]
              have e4 : σ7 41 4 0 = υ 41 4 0 := by rw [hσ7, ups_t _ (by decide), hσ1, ups_i _ _ _ (by decide)]
              have ex : σ7 40 (nTop υ + 49) 0 = υ 40 (nTop υ + 49) 0 + 1 := by rw [hσ7, ups_eq]
              refine lv_iload hx hb dL_turn_137 (lv_at hl 1 rfl) ?_
              refine k_bipush hC dL_turn_139 (by decide) ?_
              refine k_icmp_ne (tgt := 157) hC dL_turn_141 (by decide) (by omega) (fun c8 => ?_) (fun c8 => absurd c8 (by omega))
              refine lv_iload hx hb dL_turn_157 (lv_at hl 1 rfl) ?_
              refine k_bipush hC dL_turn_159 (by decide) ?_
              refine k_icmp_ne (tgt := 172) hC dL_turn_161 (by decide) (by omega) (fun c9 => ?_) (fun c9 => absurd c9 (by omega))
              refine lv_iload hx hb dL_turn_172 (lv_at hl 1 rfl) ?_
              refine k_bipush hC dL_turn_174 (by decide) ?_
              refine k_icmp_eq (tgt := 199) hC dL_turn_176 (by decide) (by omega) (fun c10 => absurd c10 (by omega)) (fun c10 => ?_)
              refine lv_iload hx hb dL_turn_179 (lv_at hl 1 rfl) ?_
              refine k_bipush hC dL_turn_181 (by decide) ?_
              refine k_icmp_eq (tgt := 199) hC dL_turn_183 (by decide) (by omega) (fun c11 => absurd c11 (by omega)) (fun c11 => ?_)
              refine lv_iload hx hb dL_turn_186 (lv_at hl 1 rfl) ?_
              refine k_bipush hC dL_turn_188 (by decide) ?_
              refine k_icmp_ne (tgt := 203) hC dL_turn_190 (by decide) (by omega) (fun c12 => ?_) (fun c12 => absurd c12 (by omega))
              refine k_iconst hC dL_turn_203 ?_
              refine lv_istore (lv' := [(7, .int (zi 0)), (6, .int (zi nv)), (5, .int (zi 100)), (2, .int (zi (n + 1))), (4, .int (zi (υ 40 ((nTop υ) + 49) 0))), (3, .int (zi (nTop υ))), (1, .ref (ad 21 0)), (0, .ref (ad 20 0))]) hx hb dL_turn_204 hl (by decide) rfl (fun ls hl => ?_)
              refine lv_aload_n hx hb dL_turn_206 rfl (lv_at hl 6 rfl) ?_
              refine k_iconst hC dL_turn_207 ?_
              refine lv_iload hx hb dL_turn_208 (lv_at hl 2 rfl) ?_
              refine k_bipush hC dL_turn_210 (by decide) ?_
              refine k_icmp_ne (tgt := 220) hC dL_turn_212 (by decide) (by omega) (fun c13 => ?_) (fun c13 => absurd c13 (by omega))
              refine lv_iload hx hb dL_turn_220 (lv_at hl 2 rfl) ?_
              refine k_bipush hC dL_turn_222 (by decide) ?_
              refine k_icmp_ne (tgt := 241) hC dL_turn_224 (by decide) (by omega) (fun c14 => ?_) (fun c14 => absurd c14 (by omega))
              refine lv_aload_n hx hb dL_turn_241 rfl (lv_at hl 6 rfl) ?_
              refine k_iconst hC dL_turn_242 ?_
              refine na_h hC hW (by omega) (v := υ 41 1 0) (by rw [hσ7, ups_t _ (by decide), hσ1, ups_i _ _ _ (by decide)]) dL_turn_243 ?_
              refine ns_h hC hW (by omega) hS dL_turn_244 (fun H locs hW hS => ?_)
              obtain ⟨σ8, hσ8⟩ : ∃ z, z = ups σ7 41 1 0 (υ 41 1 0) := ⟨_, rfl⟩
              rw [← hσ8] at hW
              refine lv_aload_n hx hb dL_turn_245 rfl (lv_at hl 7 rfl) ?_
              refine lv_iload_n hx hb dL_turn_246 rfl (lv_at hl 5 rfl) ?_
              refine k_bipush hC dL_turn_247 (by decide) ?_
              refine k_iadd hC dL_turn_249 ?_
              refine lv_iload hx hb dL_turn_250 (lv_at hl 0 rfl) ?_
              refine k_if_eq (tgt := 260) hC dL_turn_252 (by decide) (by omega) (fun c15 => ?_) (fun c15 => absurd c15 (by omega))
              refine lv_aload_n hx hb dL_turn_260 rfl (lv_at hl 7 rfl) ?_
              refine lv_iload_n hx hb dL_turn_261 rfl (lv_at hl 5 rfl) ?_
              refine k_bipush hC dL_turn_262 (by decide) ?_
              refine k_iadd hC dL_turn_264 ?_
              refine na_net hC hW (by omega) (v := (υ 40 ((nTop υ) + 49) 0) + 1) (by rw [hσ8, ups_t _ (by decide), hσ7, ups_eq]) dL_turn_265 ?_
              refine ns_net hC hW (by omega) hS dL_turn_266 (fun H locs hW hS => ?_)
              obtain ⟨σ9, hσ9⟩ : ∃ z, z = ups σ8 40 ((nTop υ) + 49) 0 ((υ 40 ((nTop υ) + 49) 0) + 1) := ⟨_, rfl⟩
              rw [← hσ9] at hW
              refine lv_iload hx hb dL_turn_267 (lv_at hl 2 rfl) ?_
              refine k_bipush hC dL_turn_269 (by decide) ?_
              refine k_icmp_ne (tgt := 307) hC dL_turn_271 (by decide) (by omega) (fun c16 => ?_) (fun c16 => absurd c16 (by omega))
              refine lv_goto (tgt := 16) hx hb dL_turn_307 (by decide) ?_
              have hl := Eq.mp (congrArg (fun z : Int => lv_has ls 8 [(7, .int (zi 0)), (6, .int (zi nv)), (5, .int (zi 100)), (2, .int (zi z)), (4, .int (zi (υ 40 ((nTop υ) + 49) 0))), (3, .int (zi (nTop υ))), (1, .ref (ad 21 0)), (0, .ref (ad 20 0))]) (show (n + 1 : Int) = (n + 1) by omega)) hl
              have e9 : ¬ (nEnd υ ∧ 1 < υ 41 0 0) := fun z => e9 z.1
              have hfin : nDo (nHd υ) = σ9 := by
                rw [hD2, nObey_o (by decide) (by decide) (by omega), hσ9, hσ8]
                exact nMid_v (by rw [ec]; unfold nC; first | rw [if_pos (by omega)] | rw [if_neg (by omega), if_pos (by omega)] | rw [if_neg (by omega), if_neg (by omega)]) (by rw [ec, ex]; unfold nJ; first | rw [if_pos (by omega)] | rw [if_neg (by omega)])
              have hm : σ9 41 0 0 ≤ υ 41 0 0 + 1 := by rw [← hfin]; exact nDo_h υ
              exact ih_16 σ9 (fLine κ1 0) (n + 1) K1 (by omega) (by omega) (by rw [← hfin]; exact (nLoop_l (by omega) e9 hO0).symm.trans i2) (Inv_fLine i3 (by decide) i4.2.2.2.2.2.1 i4.2.2.2.2.2.2.2.1) (by rw [← hfin]; exact hR) (by omega) _ _ hW hS _ (lv_sub hl [3, 6, 7] rfl)
            · have hO0 : nO υ = 0 := hO.mpr (Or.inr (by decide))
              refine lv_aload_n hx hb dL_turn_127 rfl (lv_at hl 6 rfl) ?_
              refine lv_iload_n hx hb dL_turn_128 rfl (lv_at hl 4 rfl) ?_
              refine k_bipush hC dL_turn_129 (by decide) ?_
              refine k_iadd hC dL_turn_131 ?_
              refine lv_dup2_11 hx hb dL_turn_132 rfl rfl ?_
              refine na_net hC hW (by omega) (v := υ 40 ((nTop υ) + 49) 0) (by rw [hσ1, ups_t _ (by decide)]) dL_turn_133 ?_
              refine k_iconst hC dL_turn_134 ?_
              refine k_iadd hC dL_turn_135 ?_
              refine ns_net hC hW (by omega) hS dL_turn_136 (fun H locs hW hS => ?_)
              obtain ⟨σ10, hσ10⟩ : ∃ z, z = ups σ1 40 ((nTop υ) + 49) 0 ((υ 40 ((nTop υ) + 49) 0) + 1) := ⟨_, rfl⟩
              rw [← hσ10] at hW
              have hD2 : nDo (nHd υ) = nObey σ10 (nTop υ) 102 nv := by rw [hD, hσ10, hσ1]
              have ec : σ10 41 1 0 = υ 41 1 0 := by rw [hσ10, ups_t _ (by decide), hσ1, ups_i _ _ _ (by decide)]
              have e0 : σ10 41 0 0 = υ 41 0 0 := by rw [hσ10, ups_t _ (by decide), hσ1, ups_i _ _ _ (by decide)]
              have e4 : σ10 41 4 0 = υ 41 4 0 := by rw [hσ10, ups_t _ (by decide), hσ1, ups_i _ _ _ (by decide)]
              have ex : σ10 40 (nTop υ + 49) 0 = υ 40 (nTop υ + 49) 0 + 1 := by rw [hσ10, ups_eq]
              refine lv_iload hx hb dL_turn_137 (lv_at hl 1 rfl) ?_
              refine k_bipush hC dL_turn_139 (by decide) ?_
              refine k_icmp_ne (tgt := 157) hC dL_turn_141 (by decide) (by omega) (fun c17 => ?_) (fun c17 => absurd c17 (by omega))
              refine lv_iload hx hb dL_turn_157 (lv_at hl 1 rfl) ?_
              refine k_bipush hC dL_turn_159 (by decide) ?_
              refine k_icmp_ne (tgt := 172) hC dL_turn_161 (by decide) (by omega) (fun c18 => ?_) (fun c18 => absurd c18 (by omega))
              refine lv_iload hx hb dL_turn_172 (lv_at hl 1 rfl) ?_
              refine k_bipush hC dL_turn_174 (by decide) ?_
              refine k_icmp_eq (tgt := 199) hC dL_turn_176 (by decide) (by omega) (fun c19 => absurd c19 (by omega)) (fun c19 => ?_)
              refine lv_iload hx hb dL_turn_179 (lv_at hl 1 rfl) ?_
              refine k_bipush hC dL_turn_181 (by decide) ?_
              refine k_icmp_eq (tgt := 199) hC dL_turn_183 (by decide) (by omega) (fun c20 => absurd c20 (by omega)) (fun c20 => ?_)
              refine lv_iload hx hb dL_turn_186 (lv_at hl 1 rfl) ?_
              refine k_bipush hC dL_turn_188 (by decide) ?_
              refine k_icmp_ne (tgt := 203) hC dL_turn_190 (by decide) (by omega) (fun c21 => ?_) (fun c21 => absurd c21 (by omega))
              refine k_iconst hC dL_turn_203 ?_
              refine lv_istore (lv' := [(7, .int (zi 0)), (6, .int (zi nv)), (5, .int (zi 102)), (2, .int (zi (n + 1))), (4, .int (zi (υ 40 ((nTop υ) + 49) 0))), (3, .int (zi (nTop υ))), (1, .ref (ad 21 0)), (0, .ref (ad 20 0))]) hx hb dL_turn_204 hl (by decide) rfl (fun ls hl => ?_)
              refine lv_aload_n hx hb dL_turn_206 rfl (lv_at hl 6 rfl) ?_
              refine k_iconst hC dL_turn_207 ?_
              refine lv_iload hx hb dL_turn_208 (lv_at hl 2 rfl) ?_
              refine k_bipush hC dL_turn_210 (by decide) ?_
              refine k_icmp_ne (tgt := 220) hC dL_turn_212 (by decide) (by omega) (fun c22 => ?_) (fun c22 => absurd c22 (by omega))
              refine lv_iload hx hb dL_turn_220 (lv_at hl 2 rfl) ?_
              refine k_bipush hC dL_turn_222 (by decide) ?_
              refine k_icmp_ne (tgt := 241) hC dL_turn_224 (by decide) (by omega) (fun c23 => ?_) (fun c23 => absurd c23 (by omega))
              refine lv_aload_n hx hb dL_turn_241 rfl (lv_at hl 6 rfl) ?_
              refine k_iconst hC dL_turn_242 ?_
              refine na_h hC hW (by omega) (v := υ 41 1 0) (by rw [hσ10, ups_t _ (by decide), hσ1, ups_i _ _ _ (by decide)]) dL_turn_243 ?_
              refine ns_h hC hW (by omega) hS dL_turn_244 (fun H locs hW hS => ?_)
              obtain ⟨σ11, hσ11⟩ : ∃ z, z = ups σ10 41 1 0 (υ 41 1 0) := ⟨_, rfl⟩
              rw [← hσ11] at hW
              refine lv_aload_n hx hb dL_turn_245 rfl (lv_at hl 7 rfl) ?_
              refine lv_iload_n hx hb dL_turn_246 rfl (lv_at hl 5 rfl) ?_
              refine k_bipush hC dL_turn_247 (by decide) ?_
              refine k_iadd hC dL_turn_249 ?_
              refine lv_iload hx hb dL_turn_250 (lv_at hl 0 rfl) ?_
              refine k_if_eq (tgt := 260) hC dL_turn_252 (by decide) (by omega) (fun c24 => ?_) (fun c24 => absurd c24 (by omega))
              refine lv_aload_n hx hb dL_turn_260 rfl (lv_at hl 7 rfl) ?_
              refine lv_iload_n hx hb dL_turn_261 rfl (lv_at hl 5 rfl) ?_
              refine k_bipush hC dL_turn_262 (by decide) ?_
              refine k_iadd hC dL_turn_264 ?_
              refine na_net hC hW (by omega) (v := (υ 40 ((nTop υ) + 49) 0) + 1) (by rw [hσ11, ups_t _ (by decide), hσ10, ups_eq]) dL_turn_265 ?_
              refine ns_net hC hW (by omega) hS dL_turn_266 (fun H locs hW hS => ?_)
              obtain ⟨σ12, hσ12⟩ : ∃ z, z = ups σ11 40 ((nTop υ) + 49) 0 ((υ 40 ((nTop υ) + 49) 0) + 1) := ⟨_, rfl⟩
              rw [← hσ12] at hW
              refine lv_iload hx hb dL_turn_267 (lv_at hl 2 rfl) ?_
              refine k_bipush hC dL_turn_269 (by decide) ?_
              refine k_icmp_ne (tgt := 307) hC dL_turn_271 (by decide) (by omega) (fun c25 => ?_) (fun c25 => absurd c25 (by omega))
              refine lv_goto (tgt := 16) hx hb dL_turn_307 (by decide) ?_
              have hl := Eq.mp (congrArg (fun z : Int => lv_has ls 8 [(7, .int (zi 0)), (6, .int (zi nv)), (5, .int (zi 102)), (2, .int (zi z)), (4, .int (zi (υ 40 ((nTop υ) + 49) 0))), (3, .int (zi (nTop υ))), (1, .ref (ad 21 0)), (0, .ref (ad 20 0))]) (show (n + 1 : Int) = (n + 1) by omega)) hl
              have e9 : ¬ (nEnd υ ∧ 1 < υ 41 0 0) := fun z => e9 z.1
              have hfin : nDo (nHd υ) = σ12 := by
                rw [hD2, nObey_o (by decide) (by decide) (by omega), hσ12, hσ11]
                exact nMid_v (by rw [ec]; unfold nC; first | rw [if_pos (by omega)] | rw [if_neg (by omega), if_pos (by omega)] | rw [if_neg (by omega), if_neg (by omega)]) (by rw [ec, ex]; unfold nJ; first | rw [if_pos (by omega)] | rw [if_neg (by omega)])
              have hm : σ12 41 0 0 ≤ υ 41 0 0 + 1 := by rw [← hfin]; exact nDo_h υ
              exact ih_16 σ12 (fLine κ1 0) (n + 1) K1 (by omega) (by omega) (by rw [← hfin]; exact (nLoop_l (by omega) e9 hO0).symm.trans i2) (Inv_fLine i3 (by decide) i4.2.2.2.2.2.1 i4.2.2.2.2.2.2.2.1) (by rw [← hfin]; exact hR) (by omega) _ _ hW hS _ (lv_sub hl [3, 6, 7] rfl)
            · have hO0 : nO υ = 0 := hO.mpr (Or.inr (by decide))
              refine lv_aload_n hx hb dL_turn_127 rfl (lv_at hl 6 rfl) ?_
              refine lv_iload_n hx hb dL_turn_128 rfl (lv_at hl 4 rfl) ?_
              refine k_bipush hC dL_turn_129 (by decide) ?_
              refine k_iadd hC dL_turn_131 ?_
              refine lv_dup2_11 hx hb dL_turn_132 rfl rfl ?_
              refine na_net hC hW (by omega) (v := υ 40 ((nTop υ) + 49) 0) (by rw [hσ1, ups_t _ (by decide)]) dL_turn_133 ?_
              refine k_iconst hC dL_turn_134 ?_
              refine k_iadd hC dL_turn_135 ?_
              refine ns_net hC hW (by omega) hS dL_turn_136 (fun H locs hW hS => ?_)
              obtain ⟨σ13, hσ13⟩ : ∃ z, z = ups σ1 40 ((nTop υ) + 49) 0 ((υ 40 ((nTop υ) + 49) 0) + 1) := ⟨_, rfl⟩
              rw [← hσ13] at hW
              have hD2 : nDo (nHd υ) = nObey σ13 (nTop υ) 103 nv := by rw [hD, hσ13, hσ1]
              have ec : σ13 41 1 0 = υ 41 1 0 := by rw [hσ13, ups_t _ (by decide), hσ1, ups_i _ _ _ (by decide)]
              have e0 : σ13 41 0 0 = υ 41 0 0 := by rw [hσ13, ups_t _ (by decide), hσ1, ups_i _ _ _ (by decide)]
              have e4 : σ13 41 4 0 = υ 41 4 0 := by rw [hσ13, ups_t _ (by decide), hσ1, ups_i _ _ _ (by decide)]
              have ex : σ13 40 (nTop υ + 49) 0 = υ 40 (nTop υ + 49) 0 + 1 := by rw [hσ13, ups_eq]
              refine lv_iload hx hb dL_turn_137 (lv_at hl 1 rfl) ?_
              refine k_bipush hC dL_turn_139 (by decide) ?_
              refine k_icmp_ne (tgt := 157) hC dL_turn_141 (by decide) (by omega) (fun c26 => ?_) (fun c26 => absurd c26 (by omega))
              refine lv_iload hx hb dL_turn_157 (lv_at hl 1 rfl) ?_
              refine k_bipush hC dL_turn_159 (by decide) ?_
              refine k_icmp_ne (tgt := 172) hC dL_turn_161 (by decide) (by omega) (fun c27 => ?_) (fun c27 => absurd c27 (by omega))
              refine lv_iload hx hb dL_turn_172 (lv_at hl 1 rfl) ?_
              refine k_bipush hC dL_turn_174 (by decide) ?_
              refine k_icmp_eq (tgt := 199) hC dL_turn_176 (by decide) (by omega) (fun c28 => ?_) (fun c28 => absurd c28 (by omega))
              refine k_iconst hC dL_turn_199 ?_
              refine lv_goto (tgt := 204) hx hb dL_turn_200 (by decide) ?_
              refine lv_istore (lv' := [(7, .int (zi 1)), (6, .int (zi nv)), (5, .int (zi 103)), (2, .int (zi (n + 1))), (4, .int (zi (υ 40 ((nTop υ) + 49) 0))), (3, .int (zi (nTop υ))), (1, .ref (ad 21 0)), (0, .ref (ad 20 0))]) hx hb dL_turn_204 hl (by decide) rfl (fun ls hl => ?_)
              refine lv_aload_n hx hb dL_turn_206 rfl (lv_at hl 6 rfl) ?_
              refine k_iconst hC dL_turn_207 ?_
              refine lv_iload hx hb dL_turn_208 (lv_at hl 2 rfl) ?_
              refine k_bipush hC dL_turn_210 (by decide) ?_
              refine k_icmp_ne (tgt := 220) hC dL_turn_212 (by decide) (by omega) (fun c29 => ?_) (fun c29 => absurd c29 (by omega))
              refine lv_iload hx hb dL_turn_220 (lv_at hl 2 rfl) ?_
              refine k_bipush hC dL_turn_222 (by decide) ?_
              refine k_icmp_ne (tgt := 241) hC dL_turn_224 (by decide) (by omega) (fun c30 => ?_) (fun c30 => absurd c30 (by omega))
              refine lv_aload_n hx hb dL_turn_241 rfl (lv_at hl 6 rfl) ?_
              refine k_iconst hC dL_turn_242 ?_
              refine na_h hC hW (by omega) (v := υ 41 1 0) (by rw [hσ13, ups_t _ (by decide), hσ1, ups_i _ _ _ (by decide)]) dL_turn_243 ?_
              refine ns_h hC hW (by omega) hS dL_turn_244 (fun H locs hW hS => ?_)
              obtain ⟨σ14, hσ14⟩ : ∃ z, z = ups σ13 41 1 0 (υ 41 1 0) := ⟨_, rfl⟩
              rw [← hσ14] at hW
              refine lv_aload_n hx hb dL_turn_245 rfl (lv_at hl 7 rfl) ?_
              refine lv_iload_n hx hb dL_turn_246 rfl (lv_at hl 5 rfl) ?_
              refine k_bipush hC dL_turn_247 (by decide) ?_
              refine k_iadd hC dL_turn_249 ?_
              refine lv_iload hx hb dL_turn_250 (lv_at hl 0 rfl) ?_
              refine k_if_eq (tgt := 260) hC dL_turn_252 (by decide) (by omega) (fun c31 => absurd c31 (by omega)) (fun c31 => ?_)
              refine lv_iload hx hb dL_turn_255 (lv_at hl 1 rfl) ?_
              refine lv_goto (tgt := 266) hx hb dL_turn_257 (by decide) ?_
              refine ns_net hC hW (by omega) hS dL_turn_266 (fun H locs hW hS => ?_)
              obtain ⟨σ15, hσ15⟩ : ∃ z, z = ups σ14 40 ((nTop υ) + 49) 0 nv := ⟨_, rfl⟩
              rw [← hσ15] at hW
              refine lv_iload hx hb dL_turn_267 (lv_at hl 2 rfl) ?_
              refine k_bipush hC dL_turn_269 (by decide) ?_
              refine k_icmp_ne (tgt := 307) hC dL_turn_271 (by decide) (by omega) (fun c32 => ?_) (fun c32 => absurd c32 (by omega))
              refine lv_goto (tgt := 16) hx hb dL_turn_307 (by decide) ?_
              have hl := Eq.mp (congrArg (fun z : Int => lv_has ls 8 [(7, .int (zi 1)), (6, .int (zi nv)), (5, .int (zi 103)), (2, .int (zi z)), (4, .int (zi (υ 40 ((nTop υ) + 49) 0))), (3, .int (zi (nTop υ))), (1, .ref (ad 21 0)), (0, .ref (ad 20 0))]) (show (n + 1 : Int) = (n + 1) by omega)) hl
              have e9 : ¬ (nEnd υ ∧ 1 < υ 41 0 0) := fun z => e9 z.1
              have hfin : nDo (nHd υ) = σ15 := by
                rw [hD2, nObey_o (by decide) (by decide) (by omega), hσ15, hσ14]
                exact nMid_v (by rw [ec]; unfold nC; first | rw [if_pos (by omega)] | rw [if_neg (by omega), if_pos (by omega)] | rw [if_neg (by omega), if_neg (by omega)]) (by rw [ec, ex]; unfold nJ; first | rw [if_pos (by omega)] | rw [if_neg (by omega)])
              have hm : σ15 41 0 0 ≤ υ 41 0 0 + 1 := by rw [← hfin]; exact nDo_h υ
              exact ih_16 σ15 (fLine κ1 0) (n + 1) K1 (by omega) (by omega) (by rw [← hfin]; exact (nLoop_l (by omega) e9 hO0).symm.trans i2) (Inv_fLine i3 (by decide) i4.2.2.2.2.2.1 i4.2.2.2.2.2.2.2.1) (by rw [← hfin]; exact hR) (by omega) _ _ hW hS _ (lv_sub hl [3, 6, 7] rfl)
            · have hO0 : nO υ = 0 := hO.mpr (Or.inr (by decide))
              refine lv_aload_n hx hb dL_turn_127 rfl (lv_at hl 6 rfl) ?_
              refine lv_iload_n hx hb dL_turn_128 rfl (lv_at hl 4 rfl) ?_
              refine k_bipush hC dL_turn_129 (by decide) ?_
              refine k_iadd hC dL_turn_131 ?_
              refine lv_dup2_11 hx hb dL_turn_132 rfl rfl ?_
              refine na_net hC hW (by omega) (v := υ 40 ((nTop υ) + 49) 0) (by rw [hσ1, ups_t _ (by decide)]) dL_turn_133 ?_
              refine k_iconst hC dL_turn_134 ?_
              refine k_iadd hC dL_turn_135 ?_
              refine ns_net hC hW (by omega) hS dL_turn_136 (fun H locs hW hS => ?_)
              obtain ⟨σ16, hσ16⟩ : ∃ z, z = ups σ1 40 ((nTop υ) + 49) 0 ((υ 40 ((nTop υ) + 49) 0) + 1) := ⟨_, rfl⟩
              rw [← hσ16] at hW
              have hD2 : nDo (nHd υ) = nObey σ16 (nTop υ) 118 nv := by rw [hD, hσ16, hσ1]
              have ec : σ16 41 1 0 = υ 41 1 0 := by rw [hσ16, ups_t _ (by decide), hσ1, ups_i _ _ _ (by decide)]
              have e0 : σ16 41 0 0 = υ 41 0 0 := by rw [hσ16, ups_t _ (by decide), hσ1, ups_i _ _ _ (by decide)]
              have e4 : σ16 41 4 0 = υ 41 4 0 := by rw [hσ16, ups_t _ (by decide), hσ1, ups_i _ _ _ (by decide)]
              have ex : σ16 40 (nTop υ + 49) 0 = υ 40 (nTop υ + 49) 0 + 1 := by rw [hσ16, ups_eq]
              refine lv_iload hx hb dL_turn_137 (lv_at hl 1 rfl) ?_
              refine k_bipush hC dL_turn_139 (by decide) ?_
              refine k_icmp_ne (tgt := 157) hC dL_turn_141 (by decide) (by omega) (fun c33 => ?_) (fun c33 => absurd c33 (by omega))
              refine lv_iload hx hb dL_turn_157 (lv_at hl 1 rfl) ?_
              refine k_bipush hC dL_turn_159 (by decide) ?_
              refine k_icmp_ne (tgt := 172) hC dL_turn_161 (by decide) (by omega) (fun c34 => ?_) (fun c34 => absurd c34 (by omega))
              refine lv_iload hx hb dL_turn_172 (lv_at hl 1 rfl) ?_
              refine k_bipush hC dL_turn_174 (by decide) ?_
              refine k_icmp_eq (tgt := 199) hC dL_turn_176 (by decide) (by omega) (fun c35 => absurd c35 (by omega)) (fun c35 => ?_)
              refine lv_iload hx hb dL_turn_179 (lv_at hl 1 rfl) ?_
              refine k_bipush hC dL_turn_181 (by decide) ?_
              refine k_icmp_eq (tgt := 199) hC dL_turn_183 (by decide) (by omega) (fun c36 => ?_) (fun c36 => absurd c36 (by omega))
              refine k_iconst hC dL_turn_199 ?_
              refine lv_goto (tgt := 204) hx hb dL_turn_200 (by decide) ?_
              refine lv_istore (lv' := [(7, .int (zi 1)), (6, .int (zi nv)), (5, .int (zi 118)), (2, .int (zi (n + 1))), (4, .int (zi (υ 40 ((nTop υ) + 49) 0))), (3, .int (zi (nTop υ))), (1, .ref (ad 21 0)), (0, .ref (ad 20 0))]) hx hb dL_turn_204 hl (by decide) rfl (fun ls hl => ?_)
              refine lv_aload_n hx hb dL_turn_206 rfl (lv_at hl 6 rfl) ?_
              refine k_iconst hC dL_turn_207 ?_
              refine lv_iload hx hb dL_turn_208 (lv_at hl 2 rfl) ?_
              refine k_bipush hC dL_turn_210 (by decide) ?_
              refine k_icmp_ne (tgt := 220) hC dL_turn_212 (by decide) (by omega) (fun c37 => ?_) (fun c37 => absurd c37 (by omega))
              refine lv_iload hx hb dL_turn_220 (lv_at hl 2 rfl) ?_
              refine k_bipush hC dL_turn_222 (by decide) ?_
              refine k_icmp_ne (tgt := 241) hC dL_turn_224 (by decide) (by omega) (fun c38 => ?_) (fun c38 => absurd c38 (by omega))
              refine lv_aload_n hx hb dL_turn_241 rfl (lv_at hl 6 rfl) ?_
              refine k_iconst hC dL_turn_242 ?_
              refine na_h hC hW (by omega) (v := υ 41 1 0) (by rw [hσ16, ups_t _ (by decide), hσ1, ups_i _ _ _ (by decide)]) dL_turn_243 ?_
              refine ns_h hC hW (by omega) hS dL_turn_244 (fun H locs hW hS => ?_)
              obtain ⟨σ17, hσ17⟩ : ∃ z, z = ups σ16 41 1 0 (υ 41 1 0) := ⟨_, rfl⟩
              rw [← hσ17] at hW
              refine lv_aload_n hx hb dL_turn_245 rfl (lv_at hl 7 rfl) ?_
              refine lv_iload_n hx hb dL_turn_246 rfl (lv_at hl 5 rfl) ?_
              refine k_bipush hC dL_turn_247 (by decide) ?_
              refine k_iadd hC dL_turn_249 ?_
              refine lv_iload hx hb dL_turn_250 (lv_at hl 0 rfl) ?_
              refine k_if_eq (tgt := 260) hC dL_turn_252 (by decide) (by omega) (fun c39 => absurd c39 (by omega)) (fun c39 => ?_)
              refine lv_iload hx hb dL_turn_255 (lv_at hl 1 rfl) ?_
              refine lv_goto (tgt := 266) hx hb dL_turn_257 (by decide) ?_
              refine ns_net hC hW (by omega) hS dL_turn_266 (fun H locs hW hS => ?_)
              obtain ⟨σ18, hσ18⟩ : ∃ z, z = ups σ17 40 ((nTop υ) + 49) 0 nv := ⟨_, rfl⟩
              rw [← hσ18] at hW
              refine lv_iload hx hb dL_turn_267 (lv_at hl 2 rfl) ?_
              refine k_bipush hC dL_turn_269 (by decide) ?_
              refine k_icmp_ne (tgt := 307) hC dL_turn_271 (by decide) (by omega) (fun c40 => ?_) (fun c40 => absurd c40 (by omega))
              refine lv_goto (tgt := 16) hx hb dL_turn_307 (by decide) ?_
              have hl := Eq.mp (congrArg (fun z : Int => lv_has ls 8 [(7, .int (zi 1)), (6, .int (zi nv)), (5, .int (zi 118)), (2, .int (zi z)), (4, .int (zi (υ 40 ((nTop υ) + 49) 0))), (3, .int (zi (nTop υ))), (1, .ref (ad 21 0)), (0, .ref (ad 20 0))]) (show (n + 1 : Int) = (n + 1) by omega)) hl
              have e9 : ¬ (nEnd υ ∧ 1 < υ 41 0 0) := fun z => e9 z.1
              have hfin : nDo (nHd υ) = σ18 := by
                rw [hD2, nObey_o (by decide) (by decide) (by omega), hσ18, hσ17]
                exact nMid_v (by rw [ec]; unfold nC; first | rw [if_pos (by omega)] | rw [if_neg (by omega), if_pos (by omega)] | rw [if_neg (by omega), if_neg (by omega)]) (by rw [ec, ex]; unfold nJ; first | rw [if_pos (by omega)] | rw [if_neg (by omega)])
              have hm : σ18 41 0 0 ≤ υ 41 0 0 + 1 := by rw [← hfin]; exact nDo_h υ
              exact ih_16 σ18 (fLine κ1 0) (n + 1) K1 (by omega) (by omega) (by rw [← hfin]; exact (nLoop_l (by omega) e9 hO0).symm.trans i2) (Inv_fLine i3 (by decide) i4.2.2.2.2.2.1 i4.2.2.2.2.2.2.2.1) (by rw [← hfin]; exact hR) (by omega) _ _ hW hS _ (lv_sub hl [3, 6, 7] rfl)
            · have hO0 : nO υ = 0 := hO.mpr (Or.inr (by decide))
              refine lv_aload_n hx hb dL_turn_127 rfl (lv_at hl 6 rfl) ?_
              refine lv_iload_n hx hb dL_turn_128 rfl (lv_at hl 4 rfl) ?_
              refine k_bipush hC dL_turn_129 (by decide) ?_
              refine k_iadd hC dL_turn_131 ?_
              refine lv_dup2_11 hx hb dL_turn_132 rfl rfl ?_
              refine na_net hC hW (by omega) (v := υ 40 ((nTop υ) + 49) 0) (by rw [hσ1, ups_t _ (by decide)]) dL_turn_133 ?_
              refine k_iconst hC dL_turn_134 ?_
              refine k_iadd hC dL_turn_135 ?_
              refine ns_net hC hW (by omega) hS dL_turn_136 (fun H locs hW hS => ?_)
              obtain ⟨σ19, hσ19⟩ : ∃ z, z = ups σ1 40 ((nTop υ) + 49) 0 ((υ 40 ((nTop υ) + 49) 0) + 1) := ⟨_, rfl⟩
              rw [← hσ19] at hW
              have hD2 : nDo (nHd υ) = nObey σ19 (nTop υ) 108 nv := by rw [hD, hσ19, hσ1]
              have ec : σ19 41 1 0 = υ 41 1 0 := by rw [hσ19, ups_t _ (by decide), hσ1, ups_i _ _ _ (by decide)]
              have e0 : σ19 41 0 0 = υ 41 0 0 := by rw [hσ19, ups_t _ (by decide), hσ1, ups_i _ _ _ (by decide)]
              have e4 : σ19 41 4 0 = υ 41 4 0 := by rw [hσ19, ups_t _ (by decide), hσ1, ups_i _ _ _ (by decide)]
              have ex : σ19 40 (nTop υ + 49) 0 = υ 40 (nTop υ + 49) 0 + 1 := by rw [hσ19, ups_eq]
              refine lv_iload hx hb dL_turn_137 (lv_at hl 1 rfl) ?_
              refine k_bipush hC dL_turn_139 (by decide) ?_
              refine k_icmp_ne (tgt := 157) hC dL_turn_141 (by decide) (by omega) (fun c41 => ?_) (fun c41 => absurd c41 (by omega))
              refine lv_iload hx hb dL_turn_157 (lv_at hl 1 rfl) ?_
              refine k_bipush hC dL_turn_159 (by decide) ?_
              refine k_icmp_ne (tgt := 172) hC dL_turn_161 (by decide) (by omega) (fun c42 => ?_) (fun c42 => absurd c42 (by omega))
              refine lv_iload hx hb dL_turn_172 (lv_at hl 1 rfl) ?_
              refine k_bipush hC dL_turn_174 (by decide) ?_
              refine k_icmp_eq (tgt := 199) hC dL_turn_176 (by decide) (by omega) (fun c43 => absurd c43 (by omega)) (fun c43 => ?_)
              refine lv_iload hx hb dL_turn_179 (lv_at hl 1 rfl) ?_
              refine k_bipush hC dL_turn_181 (by decide) ?_
              refine k_icmp_eq (tgt := 199) hC dL_turn_183 (by decide) (by omega) (fun c44 => absurd c44 (by omega)) (fun c44 => ?_)
              refine lv_iload hx hb dL_turn_186 (lv_at hl 1 rfl) ?_
              refine k_bipush hC dL_turn_188 (by decide) ?_
              refine k_icmp_ne (tgt := 203) hC dL_turn_190 (by decide) (by omega) (fun c45 => absurd c45 (by omega)) (fun c45 => ?_)
              refine lv_aload_n hx hb dL_turn_193 rfl (lv_at hl 5 rfl) ?_
              refine k_iconst hC dL_turn_194 ?_
              refine na_h hC hW (by omega) (v := υ 41 1 0) (by rw [hσ19, ups_t _ (by decide), hσ1, ups_i _ _ _ (by decide)]) dL_turn_195 ?_
              refine k_if_ne (tgt := 203) hC dL_turn_196 (by decide) (by omega) (fun c46 => ?_) (fun c46 => ?_)
              · refine k_iconst hC dL_turn_203 ?_
                refine lv_istore (lv' := [(7, .int (zi 0)), (6, .int (zi nv)), (5, .int (zi 108)), (2, .int (zi (n + 1))), (4, .int (zi (υ 40 ((nTop υ) + 49) 0))), (3, .int (zi (nTop υ))), (1, .ref (ad 21 0)), (0, .ref (ad 20 0))]) hx hb dL_turn_204 hl (by decide) rfl (fun ls hl => ?_)
                refine lv_aload_n hx hb dL_turn_206 rfl (lv_at hl 6 rfl) ?_
                refine k_iconst hC dL_turn_207 ?_
                refine lv_iload hx hb dL_turn_208 (lv_at hl 2 rfl) ?_
                refine k_bipush hC dL_turn_210 (by decide) ?_
                refine k_icmp_ne (tgt := 220) hC dL_turn_212 (by decide) (by omega) (fun c47 => ?_) (fun c47 => absurd c47 (by omega))
                refine lv_iload hx hb dL_turn_220 (lv_at hl 2 rfl) ?_
                refine k_bipush hC dL_turn_222 (by decide) ?_
                refine k_icmp_ne (tgt := 241) hC dL_turn_224 (by decide) (by omega) (fun c48 => absurd c48 (by omega)) (fun c48 => ?_)
                refine lv_aload_n hx hb dL_turn_227 rfl (lv_at hl 6 rfl) ?_
                refine k_iconst hC dL_turn_228 ?_
                refine na_h hC hW (by omega) (v := υ 41 1 0) (by rw [hσ19, ups_t _ (by decide), hσ1, ups_i _ _ _ (by decide)]) dL_turn_229 ?_
                refine k_if_le (tgt := 241) hC dL_turn_230 (by decide) (by omega) (fun c49 => absurd c49 (by omega)) (fun c49 => ?_)
                refine lv_aload_n hx hb dL_turn_233 rfl (lv_at hl 6 rfl) ?_
                refine k_iconst hC dL_turn_234 ?_
                refine na_h hC hW (by omega) (v := υ 41 1 0) (by rw [hσ19, ups_t _ (by decide), hσ1, ups_i _ _ _ (by decide)]) dL_turn_235 ?_
                refine k_iconst hC dL_turn_236 ?_
                refine k_isub hC dL_turn_237 ?_
                refine lv_goto (tgt := 244) hx hb dL_turn_238 (by decide) ?_
                refine ns_h hC hW (by omega) hS dL_turn_244 (fun H locs hW hS => ?_)
                obtain ⟨σ20, hσ20⟩ : ∃ z, z = ups σ19 41 1 0 ((υ 41 1 0) - 1) := ⟨_, rfl⟩
                rw [← hσ20] at hW
                refine lv_aload_n hx hb dL_turn_245 rfl (lv_at hl 7 rfl) ?_
                refine lv_iload_n hx hb dL_turn_246 rfl (lv_at hl 5 rfl) ?_
                refine k_bipush hC dL_turn_247 (by decide) ?_
                refine k_iadd hC dL_turn_249 ?_
                refine lv_iload hx hb dL_turn_250 (lv_at hl 0 rfl) ?_
                refine k_if_eq (tgt := 260) hC dL_turn_252 (by decide) (by omega) (fun c50 => ?_) (fun c50 => absurd c50 (by omega))
                refine lv_aload_n hx hb dL_turn_260 rfl (lv_at hl 7 rfl) ?_
                refine lv_iload_n hx hb dL_turn_261 rfl (lv_at hl 5 rfl) ?_
                refine k_bipush hC dL_turn_262 (by decide) ?_
                refine k_iadd hC dL_turn_264 ?_
                refine na_net hC hW (by omega) (v := (υ 40 ((nTop υ) + 49) 0) + 1) (by rw [hσ20, ups_t _ (by decide), hσ19, ups_eq]) dL_turn_265 ?_
                refine ns_net hC hW (by omega) hS dL_turn_266 (fun H locs hW hS => ?_)
                obtain ⟨σ21, hσ21⟩ : ∃ z, z = ups σ20 40 ((nTop υ) + 49) 0 ((υ 40 ((nTop υ) + 49) 0) + 1) := ⟨_, rfl⟩
                rw [← hσ21] at hW
                refine lv_iload hx hb dL_turn_267 (lv_at hl 2 rfl) ?_
                refine k_bipush hC dL_turn_269 (by decide) ?_
                refine k_icmp_ne (tgt := 307) hC dL_turn_271 (by decide) (by omega) (fun c51 => ?_) (fun c51 => absurd c51 (by omega))
                refine lv_goto (tgt := 16) hx hb dL_turn_307 (by decide) ?_
                have hl := Eq.mp (congrArg (fun z : Int => lv_has ls 8 [(7, .int (zi 0)), (6, .int (zi nv)), (5, .int (zi 108)), (2, .int (zi z)), (4, .int (zi (υ 40 ((nTop υ) + 49) 0))), (3, .int (zi (nTop υ))), (1, .ref (ad 21 0)), (0, .ref (ad 20 0))]) (show (n + 1 : Int) = (n + 1) by omega)) hl
                have e9 : ¬ (nEnd υ ∧ 1 < υ 41 0 0) := fun z => e9 z.1
                have hfin : nDo (nHd υ) = σ21 := by
                  rw [hD2, nObey_o (by decide) (by decide) (by omega), hσ21, hσ20]
                  exact nMid_v (by rw [ec]; unfold nC; first | rw [if_pos (by omega)] | rw [if_neg (by omega), if_pos (by omega)] | rw [if_neg (by omega), if_neg (by omega)]) (by rw [ec, ex]; unfold nJ; first | rw [if_pos (by omega)] | rw [if_neg (by omega)])
                have hm : σ21 41 0 0 ≤ υ 41 0 0 + 1 := by rw [← hfin]; exact nDo_h υ
                exact ih_16 σ21 (fLine κ1 0) (n + 1) K1 (by omega) (by omega) (by rw [← hfin]; exact (nLoop_l (by omega) e9 hO0).symm.trans i2) (Inv_fLine i3 (by decide) i4.2.2.2.2.2.1 i4.2.2.2.2.2.2.2.1) (by rw [← hfin]; exact hR) (by omega) _ _ hW hS _ (lv_sub hl [3, 6, 7] rfl)
              · refine k_iconst hC dL_turn_199 ?_
                refine lv_goto (tgt := 204) hx hb dL_turn_200 (by decide) ?_
                refine lv_istore (lv' := [(7, .int (zi 1)), (6, .int (zi nv)), (5, .int (zi 108)), (2, .int (zi (n + 1))), (4, .int (zi (υ 40 ((nTop υ) + 49) 0))), (3, .int (zi (nTop υ))), (1, .ref (ad 21 0)), (0, .ref (ad 20 0))]) hx hb dL_turn_204 hl (by decide) rfl (fun ls hl => ?_)
                refine lv_aload_n hx hb dL_turn_206 rfl (lv_at hl 6 rfl) ?_
                refine k_iconst hC dL_turn_207 ?_
                refine lv_iload hx hb dL_turn_208 (lv_at hl 2 rfl) ?_
                refine k_bipush hC dL_turn_210 (by decide) ?_
                refine k_icmp_ne (tgt := 220) hC dL_turn_212 (by decide) (by omega) (fun c52 => ?_) (fun c52 => absurd c52 (by omega))
                refine lv_iload hx hb dL_turn_220 (lv_at hl 2 rfl) ?_
                refine k_bipush hC dL_turn_222 (by decide) ?_
                refine k_icmp_ne (tgt := 241) hC dL_turn_224 (by decide) (by omega) (fun c53 => absurd c53 (by omega)) (fun c53 => ?_)
                refine lv_aload_n hx hb dL_turn_227 rfl (lv_at hl 6 rfl) ?_
                refine k_iconst hC dL_turn_228 ?_
                refine na_h hC hW (by omega) (v := υ 41 1 0) (by rw [hσ19, ups_t _ (by decide), hσ1, ups_i _ _ _ (by decide)]) dL_turn_229 ?_
                refine k_if_le (tgt := 241) hC dL_turn_230 (by decide) (by omega) (fun c54 => ?_) (fun c54 => absurd c54 (by omega))
                refine lv_aload_n hx hb dL_turn_241 rfl (lv_at hl 6 rfl) ?_
                refine k_iconst hC dL_turn_242 ?_
                refine na_h hC hW (by omega) (v := υ 41 1 0) (by rw [hσ19, ups_t _ (by decide), hσ1, ups_i _ _ _ (by decide)]) dL_turn_243 ?_
                refine ns_h hC hW (by omega) hS dL_turn_244 (fun H locs hW hS => ?_)
                obtain ⟨σ22, hσ22⟩ : ∃ z, z = ups σ19 41 1 0 (υ 41 1 0) := ⟨_, rfl⟩
                rw [← hσ22] at hW
                refine lv_aload_n hx hb dL_turn_245 rfl (lv_at hl 7 rfl) ?_
                refine lv_iload_n hx hb dL_turn_246 rfl (lv_at hl 5 rfl) ?_
                refine k_bipush hC dL_turn_247 (by decide) ?_
                refine k_iadd hC dL_turn_249 ?_
                refine lv_iload hx hb dL_turn_250 (lv_at hl 0 rfl) ?_
                refine k_if_eq (tgt := 260) hC dL_turn_252 (by decide) (by omega) (fun c55 => absurd c55 (by omega)) (fun c55 => ?_)
                refine lv_iload hx hb dL_turn_255 (lv_at hl 1 rfl) ?_
                refine lv_goto (tgt := 266) hx hb dL_turn_257 (by decide) ?_
                refine ns_net hC hW (by omega) hS dL_turn_266 (fun H locs hW hS => ?_)
                obtain ⟨σ23, hσ23⟩ : ∃ z, z = ups σ22 40 ((nTop υ) + 49) 0 nv := ⟨_, rfl⟩
                rw [← hσ23] at hW
                refine lv_iload hx hb dL_turn_267 (lv_at hl 2 rfl) ?_
                refine k_bipush hC dL_turn_269 (by decide) ?_
                refine k_icmp_ne (tgt := 307) hC dL_turn_271 (by decide) (by omega) (fun c56 => ?_) (fun c56 => absurd c56 (by omega))
                refine lv_goto (tgt := 16) hx hb dL_turn_307 (by decide) ?_
                have hl := Eq.mp (congrArg (fun z : Int => lv_has ls 8 [(7, .int (zi 1)), (6, .int (zi nv)), (5, .int (zi 108)), (2, .int (zi z)), (4, .int (zi (υ 40 ((nTop υ) + 49) 0))), (3, .int (zi (nTop υ))), (1, .ref (ad 21 0)), (0, .ref (ad 20 0))]) (show (n + 1 : Int) = (n + 1) by omega)) hl
                have e9 : ¬ (nEnd υ ∧ 1 < υ 41 0 0) := fun z => e9 z.1
                have hfin : nDo (nHd υ) = σ23 := by
                  rw [hD2, nObey_o (by decide) (by decide) (by omega), hσ23, hσ22]
                  exact nMid_v (by rw [ec]; unfold nC; first | rw [if_pos (by omega)] | rw [if_neg (by omega), if_pos (by omega)] | rw [if_neg (by omega), if_neg (by omega)]) (by rw [ec, ex]; unfold nJ; first | rw [if_pos (by omega)] | rw [if_neg (by omega)])
                have hm : σ23 41 0 0 ≤ υ 41 0 0 + 1 := by rw [← hfin]; exact nDo_h υ
                exact ih_16 σ23 (fLine κ1 0) (n + 1) K1 (by omega) (by omega) (by rw [← hfin]; exact (nLoop_l (by omega) e9 hO0).symm.trans i2) (Inv_fLine i3 (by decide) i4.2.2.2.2.2.1 i4.2.2.2.2.2.2.2.1) (by rw [← hfin]; exact hR) (by omega) _ _ hW hS _ (lv_sub hl [3, 6, 7] rfl)
            · have hO0 : nO υ = 0 := hO.mpr (Or.inr (by decide))
              refine lv_aload_n hx hb dL_turn_127 rfl (lv_at hl 6 rfl) ?_
              refine lv_iload_n hx hb dL_turn_128 rfl (lv_at hl 4 rfl) ?_
              refine k_bipush hC dL_turn_129 (by decide) ?_
              refine k_iadd hC dL_turn_131 ?_
              refine lv_dup2_11 hx hb dL_turn_132 rfl rfl ?_
              refine na_net hC hW (by omega) (v := υ 40 ((nTop υ) + 49) 0) (by rw [hσ1, ups_t _ (by decide)]) dL_turn_133 ?_
              refine k_iconst hC dL_turn_134 ?_
              refine k_iadd hC dL_turn_135 ?_
              refine ns_net hC hW (by omega) hS dL_turn_136 (fun H locs hW hS => ?_)
              obtain ⟨σ24, hσ24⟩ : ∃ z, z = ups σ1 40 ((nTop υ) + 49) 0 ((υ 40 ((nTop υ) + 49) 0) + 1) := ⟨_, rfl⟩
              rw [← hσ24] at hW
              have hD2 : nDo (nHd υ) = nObey σ24 (nTop υ) 99 nv := by rw [hD, hσ24, hσ1]
              have ec : σ24 41 1 0 = υ 41 1 0 := by rw [hσ24, ups_t _ (by decide), hσ1, ups_i _ _ _ (by decide)]
              have e0 : σ24 41 0 0 = υ 41 0 0 := by rw [hσ24, ups_t _ (by decide), hσ1, ups_i _ _ _ (by decide)]
              have e4 : σ24 41 4 0 = υ 41 4 0 := by rw [hσ24, ups_t _ (by decide), hσ1, ups_i _ _ _ (by decide)]
              have ex : σ24 40 (nTop υ + 49) 0 = υ 40 (nTop υ + 49) 0 + 1 := by rw [hσ24, ups_eq]
              refine lv_iload hx hb dL_turn_137 (lv_at hl 1 rfl) ?_
              refine k_bipush hC dL_turn_139 (by decide) ?_
              refine k_icmp_ne (tgt := 157) hC dL_turn_141 (by decide) (by omega) (fun c57 => ?_) (fun c57 => absurd c57 (by omega))
              refine lv_iload hx hb dL_turn_157 (lv_at hl 1 rfl) ?_
              refine k_bipush hC dL_turn_159 (by decide) ?_
              refine k_icmp_ne (tgt := 172) hC dL_turn_161 (by decide) (by omega) (fun c58 => ?_) (fun c58 => absurd c58 (by omega))
              refine lv_iload hx hb dL_turn_172 (lv_at hl 1 rfl) ?_
              refine k_bipush hC dL_turn_174 (by decide) ?_
              refine k_icmp_eq (tgt := 199) hC dL_turn_176 (by decide) (by omega) (fun c59 => absurd c59 (by omega)) (fun c59 => ?_)
              refine lv_iload hx hb dL_turn_179 (lv_at hl 1 rfl) ?_
              refine k_bipush hC dL_turn_181 (by decide) ?_
              refine k_icmp_eq (tgt := 199) hC dL_turn_183 (by decide) (by omega) (fun c60 => absurd c60 (by omega)) (fun c60 => ?_)
              refine lv_iload hx hb dL_turn_186 (lv_at hl 1 rfl) ?_
              refine k_bipush hC dL_turn_188 (by decide) ?_
              refine k_icmp_ne (tgt := 203) hC dL_turn_190 (by decide) (by omega) (fun c61 => ?_) (fun c61 => absurd c61 (by omega))
              refine k_iconst hC dL_turn_203 ?_
              refine lv_istore (lv' := [(7, .int (zi 0)), (6, .int (zi nv)), (5, .int (zi 99)), (2, .int (zi (n + 1))), (4, .int (zi (υ 40 ((nTop υ) + 49) 0))), (3, .int (zi (nTop υ))), (1, .ref (ad 21 0)), (0, .ref (ad 20 0))]) hx hb dL_turn_204 hl (by decide) rfl (fun ls hl => ?_)
              refine lv_aload_n hx hb dL_turn_206 rfl (lv_at hl 6 rfl) ?_
              refine k_iconst hC dL_turn_207 ?_
              refine lv_iload hx hb dL_turn_208 (lv_at hl 2 rfl) ?_
              refine k_bipush hC dL_turn_210 (by decide) ?_
              refine k_icmp_ne (tgt := 220) hC dL_turn_212 (by decide) (by omega) (fun c62 => absurd c62 (by omega)) (fun c62 => ?_)
              refine lv_iload hx hb dL_turn_215 (lv_at hl 1 rfl) ?_
              refine lv_goto (tgt := 244) hx hb dL_turn_217 (by decide) ?_
              refine ns_h hC hW (by omega) hS dL_turn_244 (fun H locs hW hS => ?_)
              obtain ⟨σ25, hσ25⟩ : ∃ z, z = ups σ24 41 1 0 nv := ⟨_, rfl⟩
              rw [← hσ25] at hW
              refine lv_aload_n hx hb dL_turn_245 rfl (lv_at hl 7 rfl) ?_
              refine lv_iload_n hx hb dL_turn_246 rfl (lv_at hl 5 rfl) ?_
              refine k_bipush hC dL_turn_247 (by decide) ?_
              refine k_iadd hC dL_turn_249 ?_
              refine lv_iload hx hb dL_turn_250 (lv_at hl 0 rfl) ?_
              refine k_if_eq (tgt := 260) hC dL_turn_252 (by decide) (by omega) (fun c63 => ?_) (fun c63 => absurd c63 (by omega))
              refine lv_aload_n hx hb dL_turn_260 rfl (lv_at hl 7 rfl) ?_
              refine lv_iload_n hx hb dL_turn_261 rfl (lv_at hl 5 rfl) ?_
              refine k_bipush hC dL_turn_262 (by decide) ?_
              refine k_iadd hC dL_turn_264 ?_
              refine na_net hC hW (by omega) (v := (υ 40 ((nTop υ) + 49) 0) + 1) (by rw [hσ25, ups_t _ (by decide), hσ24, ups_eq]) dL_turn_265 ?_
              refine ns_net hC hW (by omega) hS dL_turn_266 (fun H locs hW hS => ?_)
              obtain ⟨σ26, hσ26⟩ : ∃ z, z = ups σ25 40 ((nTop υ) + 49) 0 ((υ 40 ((nTop υ) + 49) 0) + 1) := ⟨_, rfl⟩
              rw [← hσ26] at hW
              refine lv_iload hx hb dL_turn_267 (lv_at hl 2 rfl) ?_
              refine k_bipush hC dL_turn_269 (by decide) ?_
              refine k_icmp_ne (tgt := 307) hC dL_turn_271 (by decide) (by omega) (fun c64 => ?_) (fun c64 => absurd c64 (by omega))
              refine lv_goto (tgt := 16) hx hb dL_turn_307 (by decide) ?_
              have hl := Eq.mp (congrArg (fun z : Int => lv_has ls 8 [(7, .int (zi 0)), (6, .int (zi nv)), (5, .int (zi 99)), (2, .int (zi z)), (4, .int (zi (υ 40 ((nTop υ) + 49) 0))), (3, .int (zi (nTop υ))), (1, .ref (ad 21 0)), (0, .ref (ad 20 0))]) (show (n + 1 : Int) = (n + 1) by omega)) hl
              have e9 : ¬ (nEnd υ ∧ 1 < υ 41 0 0) := fun z => e9 z.1
              have hfin : nDo (nHd υ) = σ26 := by
                rw [hD2, nObey_o (by decide) (by decide) (by omega), hσ26, hσ25]
                exact nMid_v (by rw [ec]; unfold nC; first | rw [if_pos (by omega)] | rw [if_neg (by omega), if_pos (by omega)] | rw [if_neg (by omega), if_neg (by omega)]) (by rw [ec, ex]; unfold nJ; first | rw [if_pos (by omega)] | rw [if_neg (by omega)])
              have hm : σ26 41 0 0 ≤ υ 41 0 0 + 1 := by rw [← hfin]; exact nDo_h υ
              exact ih_16 σ26 (fLine κ1 0) (n + 1) K1 (by omega) (by omega) (by rw [← hfin]; exact (nLoop_l (by omega) e9 hO0).symm.trans i2) (Inv_fLine i3 (by decide) i4.2.2.2.2.2.1 i4.2.2.2.2.2.2.2.1) (by rw [← hfin]; exact hR) (by omega) _ _ hW hS _ (lv_sub hl [3, 6, 7] rfl)
            · have hO0 : nO υ = 0 := hO.mpr (Or.inr (by decide))
              refine lv_aload_n hx hb dL_turn_127 rfl (lv_at hl 6 rfl) ?_
              refine lv_iload_n hx hb dL_turn_128 rfl (lv_at hl 4 rfl) ?_
              refine k_bipush hC dL_turn_129 (by decide) ?_
              refine k_iadd hC dL_turn_131 ?_
              refine lv_dup2_11 hx hb dL_turn_132 rfl rfl ?_
              refine na_net hC hW (by omega) (v := υ 40 ((nTop υ) + 49) 0) (by rw [hσ1, ups_t _ (by decide)]) dL_turn_133 ?_
              refine k_iconst hC dL_turn_134 ?_
              refine k_iadd hC dL_turn_135 ?_
              refine ns_net hC hW (by omega) hS dL_turn_136 (fun H locs hW hS => ?_)
              obtain ⟨σ27, hσ27⟩ : ∃ z, z = ups σ1 40 ((nTop υ) + 49) 0 ((υ 40 ((nTop υ) + 49) 0) + 1) := ⟨_, rfl⟩
              rw [← hσ27] at hW
              have hD2 : nDo (nHd υ) = nObey σ27 (nTop υ) 112 nv := by rw [hD, hσ27, hσ1]
              have ec : σ27 41 1 0 = υ 41 1 0 := by rw [hσ27, ups_t _ (by decide), hσ1, ups_i _ _ _ (by decide)]
              have e0 : σ27 41 0 0 = υ 41 0 0 := by rw [hσ27, ups_t _ (by decide), hσ1, ups_i _ _ _ (by decide)]
              have e4 : σ27 41 4 0 = υ 41 4 0 := by rw [hσ27, ups_t _ (by decide), hσ1, ups_i _ _ _ (by decide)]
              have ex : σ27 40 (nTop υ + 49) 0 = υ 40 (nTop υ + 49) 0 + 1 := by rw [hσ27, ups_eq]
              refine lv_iload hx hb dL_turn_137 (lv_at hl 1 rfl) ?_
              refine k_bipush hC dL_turn_139 (by decide) ?_
              refine k_icmp_ne (tgt := 157) hC dL_turn_141 (by decide) (by omega) (fun c65 => ?_) (fun c65 => absurd c65 (by omega))
              refine lv_iload hx hb dL_turn_157 (lv_at hl 1 rfl) ?_
              refine k_bipush hC dL_turn_159 (by decide) ?_
              refine k_icmp_ne (tgt := 172) hC dL_turn_161 (by decide) (by omega) (fun c66 => ?_) (fun c66 => absurd c66 (by omega))
              refine lv_iload hx hb dL_turn_172 (lv_at hl 1 rfl) ?_
              refine k_bipush hC dL_turn_174 (by decide) ?_
              refine k_icmp_eq (tgt := 199) hC dL_turn_176 (by decide) (by omega) (fun c67 => absurd c67 (by omega)) (fun c67 => ?_)
              refine lv_iload hx hb dL_turn_179 (lv_at hl 1 rfl) ?_
              refine k_bipush hC dL_turn_181 (by decide) ?_
              refine k_icmp_eq (tgt := 199) hC dL_turn_183 (by decide) (by omega) (fun c68 => absurd c68 (by omega)) (fun c68 => ?_)
              refine lv_iload hx hb dL_turn_186 (lv_at hl 1 rfl) ?_
              refine k_bipush hC dL_turn_188 (by decide) ?_
              refine k_icmp_ne (tgt := 203) hC dL_turn_190 (by decide) (by omega) (fun c69 => ?_) (fun c69 => absurd c69 (by omega))
              refine k_iconst hC dL_turn_203 ?_
              refine lv_istore (lv' := [(7, .int (zi 0)), (6, .int (zi nv)), (5, .int (zi 112)), (2, .int (zi (n + 1))), (4, .int (zi (υ 40 ((nTop υ) + 49) 0))), (3, .int (zi (nTop υ))), (1, .ref (ad 21 0)), (0, .ref (ad 20 0))]) hx hb dL_turn_204 hl (by decide) rfl (fun ls hl => ?_)
              refine lv_aload_n hx hb dL_turn_206 rfl (lv_at hl 6 rfl) ?_
              refine k_iconst hC dL_turn_207 ?_
              refine lv_iload hx hb dL_turn_208 (lv_at hl 2 rfl) ?_
              refine k_bipush hC dL_turn_210 (by decide) ?_
              refine k_icmp_ne (tgt := 220) hC dL_turn_212 (by decide) (by omega) (fun c70 => ?_) (fun c70 => absurd c70 (by omega))
              refine lv_iload hx hb dL_turn_220 (lv_at hl 2 rfl) ?_
              refine k_bipush hC dL_turn_222 (by decide) ?_
              refine k_icmp_ne (tgt := 241) hC dL_turn_224 (by decide) (by omega) (fun c71 => ?_) (fun c71 => absurd c71 (by omega))
              refine lv_aload_n hx hb dL_turn_241 rfl (lv_at hl 6 rfl) ?_
              refine k_iconst hC dL_turn_242 ?_
              refine na_h hC hW (by omega) (v := υ 41 1 0) (by rw [hσ27, ups_t _ (by decide), hσ1, ups_i _ _ _ (by decide)]) dL_turn_243 ?_
              refine ns_h hC hW (by omega) hS dL_turn_244 (fun H locs hW hS => ?_)
              obtain ⟨σ28, hσ28⟩ : ∃ z, z = ups σ27 41 1 0 (υ 41 1 0) := ⟨_, rfl⟩
              rw [← hσ28] at hW
              refine lv_aload_n hx hb dL_turn_245 rfl (lv_at hl 7 rfl) ?_
              refine lv_iload_n hx hb dL_turn_246 rfl (lv_at hl 5 rfl) ?_
              refine k_bipush hC dL_turn_247 (by decide) ?_
              refine k_iadd hC dL_turn_249 ?_
              refine lv_iload hx hb dL_turn_250 (lv_at hl 0 rfl) ?_
              refine k_if_eq (tgt := 260) hC dL_turn_252 (by decide) (by omega) (fun c72 => ?_) (fun c72 => absurd c72 (by omega))
              refine lv_aload_n hx hb dL_turn_260 rfl (lv_at hl 7 rfl) ?_
              refine lv_iload_n hx hb dL_turn_261 rfl (lv_at hl 5 rfl) ?_
              refine k_bipush hC dL_turn_262 (by decide) ?_
              refine k_iadd hC dL_turn_264 ?_
              refine na_net hC hW (by omega) (v := (υ 40 ((nTop υ) + 49) 0) + 1) (by rw [hσ28, ups_t _ (by decide), hσ27, ups_eq]) dL_turn_265 ?_
              refine ns_net hC hW (by omega) hS dL_turn_266 (fun H locs hW hS => ?_)
              obtain ⟨σ29, hσ29⟩ : ∃ z, z = ups σ28 40 ((nTop υ) + 49) 0 ((υ 40 ((nTop υ) + 49) 0) + 1) := ⟨_, rfl⟩
              rw [← hσ29] at hW
              refine lv_iload hx hb dL_turn_267 (lv_at hl 2 rfl) ?_
              refine k_bipush hC dL_turn_269 (by decide) ?_
              refine k_icmp_ne (tgt := 307) hC dL_turn_271 (by decide) (by omega) (fun c73 => absurd c73 (by omega)) (fun c73 => ?_)
              refine lv_iload hx hb dL_turn_274 (lv_at hl 1 rfl) ?_
              refine k_iconst hC dL_turn_276 ?_
              refine k_icmp_ge (tgt := 307) hC dL_turn_277 (by decide) (by omega) (fun c74 => ?_) (fun c74 => ?_)
              · refine lv_goto (tgt := 16) hx hb dL_turn_307 (by decide) ?_
                have hl := Eq.mp (congrArg (fun z : Int => lv_has ls 8 [(7, .int (zi 0)), (6, .int (zi nv)), (5, .int (zi 112)), (2, .int (zi z)), (4, .int (zi (υ 40 ((nTop υ) + 49) 0))), (3, .int (zi (nTop υ))), (1, .ref (ad 21 0)), (0, .ref (ad 20 0))]) (show (n + 1 : Int) = (n + 1) by omega)) hl
                have e9 : ¬ (nEnd υ ∧ 1 < υ 41 0 0) := fun z => e9 z.1
                have hfin : nDo (nHd υ) = σ29 := by
                  rw [hD2, nObey_o (by decide) (by decide) (by omega), hσ29, hσ28]
                  exact nMid_v (by rw [ec]; unfold nC; first | rw [if_pos (by omega)] | rw [if_neg (by omega), if_pos (by omega)] | rw [if_neg (by omega), if_neg (by omega)]) (by rw [ec, ex]; unfold nJ; first | rw [if_pos (by omega)] | rw [if_neg (by omega)])
                have hm : σ29 41 0 0 ≤ υ 41 0 0 + 1 := by rw [← hfin]; exact nDo_h υ
                exact ih_16 σ29 (fLine κ1 0) (n + 1) K1 (by omega) (by omega) (by rw [← hfin]; exact (nLoop_l (by omega) e9 hO0).symm.trans i2) (Inv_fLine i3 (by decide) i4.2.2.2.2.2.1 i4.2.2.2.2.2.2.2.1) (by rw [← hfin]; exact hR) (by omega) _ _ hW hS _ (lv_sub hl [3, 6, 7] rfl)
              · refine lv_aload_n hx hb dL_turn_280 rfl (lv_at hl 6 rfl) ?_
                refine k_iconst hC dL_turn_281 ?_
                refine na_h hC hW (by omega) (v := υ 41 0 0) (by rw [hσ29, ups_t _ (by decide), hσ28, ups_i _ _ _ (by decide), hσ27, ups_t _ (by decide), hσ1, ups_i _ _ _ (by decide)]) dL_turn_282 ?_
                refine k_iconst hC dL_turn_283 ?_
                refine k_icmp_ge (tgt := 307) hC dL_turn_284 (by decide) (by omega) (fun c75 => ?_) (fun c75 => ?_)
                · refine lv_goto (tgt := 16) hx hb dL_turn_307 (by decide) ?_
                  have hl := Eq.mp (congrArg (fun z : Int => lv_has ls 8 [(7, .int (zi 0)), (6, .int (zi nv)), (5, .int (zi 112)), (2, .int (zi z)), (4, .int (zi (υ 40 ((nTop υ) + 49) 0))), (3, .int (zi (nTop υ))), (1, .ref (ad 21 0)), (0, .ref (ad 20 0))]) (show (n + 1 : Int) = (n + 1) by omega)) hl
                  have e9 : ¬ (nEnd υ ∧ 1 < υ 41 0 0) := fun z => e9 z.1
                  have hfin : nDo (nHd υ) = σ29 := by
                    rw [hD2, nObey_o (by decide) (by decide) (by omega), hσ29, hσ28]
                    exact nMid_v (by rw [ec]; unfold nC; first | rw [if_pos (by omega)] | rw [if_neg (by omega), if_pos (by omega)] | rw [if_neg (by omega), if_neg (by omega)]) (by rw [ec, ex]; unfold nJ; first | rw [if_pos (by omega)] | rw [if_neg (by omega)])
                  have hm : σ29 41 0 0 ≤ υ 41 0 0 + 1 := by rw [← hfin]; exact nDo_h υ
                  exact ih_16 σ29 (fLine κ1 0) (n + 1) K1 (by omega) (by omega) (by rw [← hfin]; exact (nLoop_l (by omega) e9 hO0).symm.trans i2) (Inv_fLine i3 (by decide) i4.2.2.2.2.2.1 i4.2.2.2.2.2.2.2.1) (by rw [← hfin]; exact hR) (by omega) _ _ hW hS _ (lv_sub hl [3, 6, 7] rfl)
                · refine lv_aload_n hx hb dL_turn_287 rfl (lv_at hl 7 rfl) ?_
                  refine k_bipush hC dL_turn_288 (by decide) ?_
                  refine lv_iload hx hb dL_turn_290 (lv_at hl 1 rfl) ?_
                  refine k_imul hC dL_turn_292 ?_
                  refine lv_iload_n hx hb dL_turn_293 rfl (lv_at hl 5 rfl) ?_
                  refine k_bipush hC dL_turn_294 (by decide) ?_
                  refine k_iadd hC dL_turn_296 ?_
                  refine k_callSV (As := [.ref (ad 20 0), .int (zi (50 * nv)), .int (zi ((nTop υ) + 50))]) (rest := []) hX hl.1 (n_copy hI σ29 nv ((nTop υ) + 50) (by omega) (by omega)) (cwS 3 hts gL_turn_L_copy rfl rfl rfl (by decide +kernel) ⟨Nat.le_of_ble_eq_true rfl, Nat.le_of_ble_eq_true rfl⟩) hW hS ⟨Nat.zero_le _, Nat.zero_le _⟩ rfl rfl (Nat.le_of_ble_eq_true rfl) dL_turn_297 (fun H locs hW hS _ _ => ?_)
                  obtain ⟨σ30, hσ30⟩ : ∃ z, z = nCopy σ29 nv ((nTop υ) + 50) := ⟨_, rfl⟩
                  rw [← hσ30] at hW
                  refine lv_aload_n hx hb dL_turn_300 rfl (lv_at hl 6 rfl) ?_
                  refine k_iconst hC dL_turn_301 ?_
                  refine lv_dup2_11 hx hb dL_turn_302 rfl rfl ?_
                  refine na_h hC hW (by omega) (v := υ 41 0 0) (by rw [hσ30, nCopy_h _ _ _ (by decide), hσ29, ups_t _ (by decide), hσ28, ups_i _ _ _ (by decide), hσ27, ups_t _ (by decide), hσ1, ups_i _ _ _ (by decide)]) dL_turn_303 ?_
                  refine k_iconst hC dL_turn_304 ?_
                  refine k_iadd hC dL_turn_305 ?_
                  refine ns_h hC hW (by omega) hS dL_turn_306 (fun H locs hW hS => ?_)
                  obtain ⟨σ31, hσ31⟩ : ∃ z, z = ups σ30 41 0 0 ((υ 41 0 0) + 1) := ⟨_, rfl⟩
                  rw [← hσ31] at hW
                  refine lv_goto (tgt := 16) hx hb dL_turn_307 (by decide) ?_
                  have hl := Eq.mp (congrArg (fun z : Int => lv_has ls 8 [(7, .int (zi 0)), (6, .int (zi nv)), (5, .int (zi 112)), (2, .int (zi z)), (4, .int (zi (υ 40 ((nTop υ) + 49) 0))), (3, .int (zi (nTop υ))), (1, .ref (ad 21 0)), (0, .ref (ad 20 0))]) (show (n + 1 : Int) = (n + 1) by omega)) hl
                  have e9 : ¬ (nEnd υ ∧ 1 < υ 41 0 0) := fun z => e9 z.1
                  have hmid : nMid σ27 (nTop υ) 112 nv = σ29 := by rw [hσ29, hσ28]; exact nMid_v (by rw [ec]; unfold nC; first | rw [if_pos (by omega)] | rw [if_neg (by omega), if_pos (by omega)] | rw [if_neg (by omega), if_neg (by omega)]) (by rw [ec, ex]; unfold nJ; first | rw [if_pos (by omega)] | rw [if_neg (by omega)])
                  have hfin : nDo (nHd υ) = σ31 := by
                    rw [hD2, hσ31, hσ30]
                    unfold nObey
                    rw [if_neg (by decide), if_neg (by decide), if_pos ⟨rfl, by omega, by omega⟩, hmid, e0]
                  have hm : σ31 41 0 0 ≤ υ 41 0 0 + 1 := by rw [← hfin]; exact nDo_h υ
                  exact ih_16 σ31 (fLine κ1 0) (n + 1) K1 (by omega) (by omega) (by rw [← hfin]; exact (nLoop_l (by omega) e9 hO0).symm.trans i2) (Inv_fLine i3 (by decide) i4.2.2.2.2.2.1 i4.2.2.2.2.2.2.2.1) (by rw [← hfin]; exact hR) (by omega) _ _ hW hS _ (lv_sub hl [3, 6, 7] rfl)
          · refine lv_aload_n hx hb dL_turn_51 rfl (lv_at hl 3 rfl) ?_
            refine k_iconst hC dL_turn_52 ?_
            refine na_h hC hW (by omega) (v := υ 41 0 0) rfl dL_turn_53 ?_
            refine k_iconst hC dL_turn_54 ?_
            refine k_icmp_le (tgt := 68) hC dL_turn_55 (by decide) (by omega) (fun c76 => ?_) (fun c76 => ?_)
            · refine k_iinc (a := n) (lv' := [(2, .int (zi (n + 1))), (4, .int (zi (υ 40 ((nTop υ) + 49) 0))), (3, .int (zi (nTop υ))), (1, .ref (ad 21 0)), (0, .ref (ad 20 0))]) hC dL_turn_68 hl (k := 2) rfl (by decide) rfl (fun ls hl => ?_)
              refine lv_aload_n hx hb dL_turn_71 rfl (lv_at hl 3 rfl) ?_
              refine k_iconst hC dL_turn_72 ?_
              refine lv_dup2_11 hx hb dL_turn_73 rfl rfl ?_
              refine na_h hC hW (by omega) (v := υ 41 5 0) rfl dL_turn_74 ?_
              refine k_iconst hC dL_turn_75 ?_
              refine k_iadd hC dL_turn_76 ?_
              refine ns_h hC hW (by omega) hS dL_turn_77 (fun H locs hW hS => ?_)
              obtain ⟨σ32, hσ32⟩ : ∃ z, z = ups υ 41 5 0 ((υ 41 5 0) + 1) := ⟨_, rfl⟩
              rw [← hσ32] at hW
              refine lv_iload hx hb dL_turn_78 (lv_at hl 1 rfl) ?_
              refine lv_aload_n hx hb dL_turn_80 rfl (lv_at hl 4 rfl) ?_
              refine lv_iload_n hx hb dL_turn_81 rfl (lv_at hl 2 rfl) ?_
              refine na_net hC hW (by omega) (v := υ 40 (nTop υ) 0) (by rw [hσ32, ups_t _ (by decide)]) dL_turn_82 ?_
              refine k_icmp_lt (tgt := 103) hC dL_turn_83 (by decide) (by omega) (fun c77 => absurd c77 (by omega)) (fun c77 => ?_)
              obtain ⟨g0, g1, g2⟩ := n_48 i4 (by omega)
              refine lv_aload_n hx hb dL_turn_86 rfl (lv_at hl 4 rfl) ?_
              refine k_bipush hC dL_turn_87 (by decide) ?_
              refine lv_aload_n hx hb dL_turn_89 rfl (lv_at hl 4 rfl) ?_
              refine lv_iload_n hx hb dL_turn_90 rfl (lv_at hl 2 rfl) ?_
              refine k_bipush hC dL_turn_91 (by decide) ?_
              refine k_iadd hC dL_turn_93 ?_
              refine na_net hC hW (by omega) (v := υ 40 ((nTop υ) + 48) 0) (by rw [hσ32, ups_t _ (by decide)]) dL_turn_94 ?_
              refine k_imul hC dL_turn_95 ?_
              refine lv_iload_n hx hb dL_turn_96 rfl (lv_at hl 2 rfl) ?_
              refine k_callSV (As := [.ref (ad 20 0), .int (zi (50 * (υ 40 ((nTop υ) + 48) 0))), .int (zi (nTop υ))]) (rest := []) hX hl.1 (n_copy hI σ32 (υ 40 (nTop υ + 48) 0) (nTop υ) (by omega) (by omega)) (cwS 3 hts gL_turn_L_copy rfl rfl rfl (by decide +kernel) ⟨Nat.le_of_ble_eq_true rfl, Nat.le_of_ble_eq_true rfl⟩) hW hS ⟨Nat.zero_le _, Nat.zero_le _⟩ rfl rfl (Nat.le_of_ble_eq_true rfl) dL_turn_97 (fun H locs hW hS _ _ => ?_)
              obtain ⟨σ33, hσ33⟩ : ∃ z, z = nCopy σ32 (υ 40 (nTop υ + 48) 0) (nTop υ) := ⟨_, rfl⟩
              rw [← hσ33] at hW
              refine lv_goto (tgt := 16) hx hb dL_turn_100 (by decide) ?_
              have hl := Eq.mp (congrArg (fun z : Int => lv_has ls 8 [(2, .int (zi z)), (4, .int (zi (υ 40 ((nTop υ) + 49) 0))), (3, .int (zi (nTop υ))), (1, .ref (ad 21 0)), (0, .ref (ad 20 0))]) (show (n + 1 : Int) = (n + 1) by omega)) hl
              have e5 := i4.2.2.1.1
              have hR := (R1_line i3 i4 (fun z => by have z1 := z.1; omega)).1
              have hO0 : nO υ = 0 := (nO_iff υ).mpr (Or.inl (by show υ 40 (nTop υ) 0 ≤ υ 40 (nTop υ + 49) 0; omega))
              have e9 : ¬ (nEnd υ ∧ 1 < υ 41 0 0) := fun z => by have z1 := z.2; omega
              have hfin : nDo (nHd υ) = σ33 := by rw [hσ33, hσ32]; exact nDo_beg (by show υ 40 (nTop υ) 0 ≤ υ 40 (nTop υ + 49) 0; omega)
              have hm : σ33 41 0 0 ≤ υ 41 0 0 + 1 := by rw [← hfin]; exact nDo_h υ
              exact ih_16 σ33 (fLine κ1 0) (n + 1) K1 (by omega) (by omega) (by rw [← hfin]; exact (nLoop_l (by omega) e9 hO0).symm.trans i2) (Inv_fLine i3 (by decide) i4.2.2.2.2.2.1 i4.2.2.2.2.2.2.2.1) (by rw [← hfin]; exact hR) (by omega) _ _ hW hS _ (lv_sub hl [0, 3, 4] rfl)
            · refine lv_aload_n hx hb dL_turn_58 rfl (lv_at hl 3 rfl) ?_
              refine k_iconst hC dL_turn_59 ?_
              refine lv_dup2_11 hx hb dL_turn_60 rfl rfl ?_
              refine na_h hC hW (by omega) (v := υ 41 0 0) rfl dL_turn_61 ?_
              refine k_iconst hC dL_turn_62 ?_
              refine k_isub hC dL_turn_63 ?_
              refine ns_h hC hW (by omega) hS dL_turn_64 (fun H locs hW hS => ?_)
              obtain ⟨σ34, hσ34⟩ : ∃ z, z = ups υ 41 0 0 ((υ 41 0 0) - 1) := ⟨_, rfl⟩
              rw [← hσ34] at hW
              refine lv_goto (tgt := 16) hx hb dL_turn_65 (by decide) ?_
              have hp := nLoop_p (K := K1) (n := n) (τ := υ) (by omega) ⟨by show υ 40 (nTop υ) 0 ≤ υ 40 (nTop υ + 49) 0; omega, by omega⟩
              have hm : σ34 41 0 0 = υ 41 0 0 - 1 := by rw [hσ34, ups_eq]
              exact ih_16 σ34 (pop1 κ1 0) n K1 (by omega) (by omega) (by rw [hσ34]; exact hp.symm.trans i2) (Inv_pop1 i3 (by have := i4.2.2.1.1; omega)) (by rw [hσ34]; exact R1_pop i4 (by have := i4.2.2.1.1; omega)) (by omega) _ _ hW hS _ (lv_sub hl [2, 3, 4] rfl)
    exact loop_16 (Int.toNat (2 * (8 - 0) + σ 41 0 0) + 1) σ κ 0 21 (by omega) (by omega) (by unfold nTurn; rw [if_neg (by omega)]) hv hR (by omega) _ _ hW hS _ (lv_sub hl [0, 2, 1] rfl)
  · refine lv_aload_n hx hb dL_turn_6 rfl (lv_at hl 1 rfl) ?_
    refine k_iconst hC dL_turn_7 ?_
    refine lv_dup2_11 hx hb dL_turn_8 rfl rfl ?_
    refine na_h hC hW (by omega) (v := σ 41 2 0) rfl dL_turn_9 ?_
    refine k_iconst hC dL_turn_10 ?_
    refine k_isub hC dL_turn_11 ?_
    refine ns_h hC hW (by omega) hS dL_turn_12 (fun H locs hW hS => ?_)
    obtain ⟨σ35, hσ35⟩ : ∃ z, z = ups σ 41 2 0 ((σ 41 2 0) - 1) := ⟨_, rfl⟩
    rw [← hσ35] at hW
    have hW : WP Dg ncnt ad (nE cA ad (nTurn σ)) _ := (sw hW (by rw [hσ35]; unfold nTurn; rw [if_pos (by omega)]))
    exact k_vret hX hW hS dL_turn_13
end N1
