section M16
theorem cdr_list (σ : St) : 0 ≤ cd_list σ ∧ cd_list σ ≤ 3 := by
  unfold cd_list
  (repeat' split) <;> decide
theorem cdr_line (σ : St) (a place k n : Int) : 0 ≤ cd_line σ a place k n ∧ cd_line σ a place k n ≤ 3 := by
  unfold cd_line
  (repeat' split) <;> decide
theorem cdr_cut (σ : St) (a place : Int) : 0 ≤ cd_cut σ a place ∧ cd_cut σ a place ≤ 3 := by
  unfold cd_cut
  (repeat' split) <;> decide
theorem cdr_lines (σ : St) (a k : Int) : 0 ≤ cd_lines σ a k ∧ cd_lines σ a k ≤ 3 := by
  unfold cd_lines
  (repeat' split) <;> decide
theorem cdr_kiosk (σ : St) : 0 ≤ cd_kiosk σ ∧ cd_kiosk σ ≤ 3 := by
  unfold cd_kiosk
  (repeat' split) <;> decide
theorem cdr_start (σ : St) (k r : Int) : 0 ≤ cd_start σ k r ∧ cd_start σ k r ≤ 3 := by
  unfold cd_start
  (repeat' split) <;> decide
theorem cdr_stop (σ : St) (k : Int) : 0 ≤ cd_stop σ k ∧ cd_stop σ k ≤ 3 := by
  unfold cd_stop
  (repeat' split) <;> decide
theorem cdr_freeze (σ : St) (k : Int) : 0 ≤ cd_freeze σ k ∧ cd_freeze σ k ≤ 3 := by
  unfold cd_freeze
  (repeat' split) <;> decide
theorem cdr_thaw (σ : St) (k : Int) : 0 ≤ cd_thaw σ k ∧ cd_thaw σ k ≤ 3 := by
  unfold cd_thaw
  (repeat' split) <;> decide
theorem cdr_state (σ : St) (k : Int) : 0 ≤ cd_state σ k ∧ cd_state σ k ≤ 3 := by
  unfold cd_state
  (repeat' split) <;> decide
theorem cdr_plays (σ : St) (k : Int) : 0 ≤ cd_plays σ k ∧ cd_plays σ k ≤ 3 := by
  unfold cd_plays
  (repeat' split) <;> decide
theorem cdr_playerAt (σ : St) (k j : Int) : 0 ≤ cd_playerAt σ k j ∧ cd_playerAt σ k j ≤ 3 := by
  unfold cd_playerAt
  (repeat' split) <;> decide
theorem cdr_next (σ : St) (k : Int) : 0 ≤ cd_next σ k ∧ cd_next σ k ≤ 3 := by
  unfold cd_next
  (repeat' split) <;> decide
theorem cdr_count (σ : St) (k : Int) : 0 ≤ cd_count σ k ∧ cd_count σ k ≤ 3 := by
  unfold cd_count
  (repeat' split) <;> decide
theorem cdr_waits (σ : St) (k : Int) : 0 ≤ cd_waits σ k ∧ cd_waits σ k ≤ 3 := by
  unfold cd_waits
  (repeat' split) <;> decide
theorem cdr_tick (σ : St) (n : Int) : 0 ≤ cd_tick σ n ∧ cd_tick σ n ≤ 3 := by
  unfold cd_tick
  (repeat' split) <;> decide
theorem cdr_slide (σ : St) (k : Int) : 0 ≤ cd_slide σ k ∧ cd_slide σ k ≤ 3 := by
  unfold cd_slide
  (repeat' split) <;> decide
theorem cdr_holder (σ : St) (d : Int) : 0 ≤ cd_holder σ d ∧ cd_holder σ d ≤ 3 := by
  unfold cd_holder
  (repeat' split) <;> decide
theorem cdr_queued (σ : St) (d j : Int) : 0 ≤ cd_queued σ d j ∧ cd_queued σ d j ≤ 3 := by
  unfold cd_queued
  (repeat' split) <;> decide
theorem cdr_visitor (σ : St) : 0 ≤ cd_visitor σ ∧ cd_visitor σ ≤ 3 := by
  unfold cd_visitor
  (repeat' split) <;> decide
theorem cdr_go (σ : St) (v k : Int) : 0 ≤ cd_go σ v k ∧ cd_go σ v k ≤ 3 := by
  unfold cd_go
  (repeat' split) <;> decide
theorem cdr_ask (σ : St) (v n : Int) : 0 ≤ cd_ask σ v n ∧ cd_ask σ v n ≤ 3 := by
  unfold cd_ask
  (repeat' split) <;> decide
theorem cdr_saw (σ : St) (v n : Int) : 0 ≤ cd_saw σ v n ∧ cd_saw σ v n ≤ 3 := by
  unfold cd_saw
  (repeat' split) <;> decide
theorem cdr_meanSeen (σ : St) : 0 ≤ cd_meanSeen σ ∧ cd_meanSeen σ ≤ 3 := by
  unfold cd_meanSeen
  (repeat' split) <;> decide
set_option maxHeartbeats 2000000 in
set_option maxRecDepth 100000 in
theorem lc_list {p : Program} {l : Launch} {e : Env} {s : State} {m : MethodId} {below : List Frame} {meth : Method} {c : Code} {H : Heap} {locs : List Loc} {cells slots : Nat} {Q : State → Prop} {ls : Array Slot} {Dg : va_G} {cA : Nat → ClassId} {cL cD : ClassId} {ad1 ad2 : Nat → Int → Nat} {oc : Nat → Nat} {ao aD b L : Nat} {xs : Nat → Int32} {o : Int64} {d9 : UInt64} {σ : St} {N M i : Int} (hK : LK p l c s m meth b L xs Dg cA cL cD oc) (hA : LA ad1 ad2 ao aD s.heap.size) (hv : Inv N M σ) (hN : N ≤ 1000000) (hM : 0 ≤ M ∧ M ≤ 1000000) (hi : 0 ≤ i ∧ i + 5 ≤ L) (hcs : cells + 1 ≤ 603072 ∧ slots + 6 ≤ 7211114) (hW : LW Dg cA cL cD ad1 ad2 ao aD σ o d9 H) (hS : va_S (NA s.heap.size) s.heap H locs) (hl : lv_has ls 10 (lvL ad1 ad2 ao aD b i))
    (kk : ∀ (σ' : St) (o' : Int64) (d' : UInt64) (H1 : Heap) (locs1 : List Loc) (ls1 : Array Slot), Inv (N + 1) (M + 300) σ' → LW Dg cA cL cD ad1 ad2 ao aD σ' o' d' H1 → va_S (NA s.heap.size) s.heap H1 locs1 → lv_has ls1 10 (lvL ad1 ad2 ao aD b i) → W p l e room_1 s m #[Value.ref b] below meth c H1 locs1 (cells + 1) (slots + 6) Q (F0 m 1722 ls1 [])) : W p l e room_1 s m #[Value.ref b] below meth c H locs cells slots Q (F0 m 172 ls []) := by
  have hX0 := hK.1
  obtain ⟨hI1, hI2, hWN, -, -, hg1, hg2, hgo, hgD⟩ := id hA
  have hX1 := kx_any hX0 hI1 hg1
  have hX2 := kx_any hX0 hI2 hg2
  have hC1 := hX1.1
  have hC2 := hX2.1
  have hx := hC1.1
  have hb := hC1.2.1
  have hts := hC1.2.2.2.1
  have hK2 := hK.2.1
  have hNc := hK.2.2.1
  have hfl := hK.2.2.2.2.2.1
  have hcs2 : cells ≤ 603072 ∧ slots ≤ 7211114 := by omega
  have hl : lv_has ls 10 [(5, .int (zi i)), (4, .ref aD), (3, .ref ao), (2, .ref (ad2 0 0)), (1, .ref (ad1 0 0)), (0, .ref b)] := hl
  obtain ⟨τ, hτ⟩ : ∃ z, z = ups σ 31 0 0 0 := ⟨_, rfl⟩
  have w1 : WP Dg ccnt ad1 (cE cA ad1 τ) H := by rw [hτ]; exact hW.tau
  obtain ⟨-, w2, hO, hD⟩ := hW
  have hvt : Inv N M τ := by rw [hτ]; exact Inv_o31 hv
  have h031 : τ 31 0 0 = 0 := by rw [hτ, ups_eq]
  refine lv_aload_n hx hb dL_law_172 rfl (lv_at hl 4 rfl) ?_
  refine lv_aload_n hx hb dL_law_173 rfl (lv_at hl 2 rfl) ?_
  refine l_callW (hh := [(0, 8, 11, 13)]) (As := [.ref (ad1 0 0), .ref ao]) (rest := []) hX1 hK2 hNc hgo hgD hl.1 (w_list hI1 hWN hfl τ hvt hN hM  o d9) (vx_cwSW 2 hts gL_law_L_list rfl rfl rfl (by decide +kernel) ⟨Nat.le_of_ble_eq_true rfl, Nat.le_of_ble_eq_true rfl⟩) w1 hO hD hS hcs rfl rfl (Nat.le_of_ble_eq_true rfl) dL_law_174 (fun H1 locs1 w1 hO hD hS hk => ?_)
  replace w2 := la_k2 hA w2 hk
  clear hk
  refine lv_istore (lv' := [(6, .int (zi (cd_list τ))), (5, .int (zi i)), (4, .ref aD), (3, .ref ao), (2, .ref (ad2 0 0)), (1, .ref (ad1 0 0)), (0, .ref b)]) hx hb dL_law_177 hl (by decide) rfl (fun ls hl => ?_)
  refine lv_aload_n hx hb dL_law_179 rfl (lv_at hl 4 rfl) ?_
  refine k_callI (As := []) (rest := []) hX2 hl.1 (q_list hI2 σ hτ hv hN hM ) (cwV 0 hts gL_law_X8_list rfl rfl rfl (by decide +kernel) ⟨Nat.le_of_ble_eq_true rfl, Nat.le_of_ble_eq_true rfl⟩) (rc_M hC2 w2) w2 hS hcs rfl rfl (Nat.le_of_ble_eq_true rfl) dL_law_180 (fun H2 locs2 w2 hS _ hk => ?_)
  replace w1 := la_k1 hA w1 hk
  replace hO := la_o hA hO hk
  replace hD := la_d hA hD hk
  clear hk
  refine lv_istore (lv' := [(7, .int (zi (bi (cd_list τ) (τ 26 0 0) 0))), (6, .int (zi (cd_list τ))), (5, .int (zi i)), (4, .ref aD), (3, .ref ao), (2, .ref (ad2 0 0)), (1, .ref (ad1 0 0)), (0, .ref b)]) hx hb dL_law_183 hl (by decide) rfl (fun ls hl => ?_)
  refine lv_aload_n hx hb dL_law_185 rfl (lv_at hl 5 rfl) ?_
  refine k_callI (As := []) (rest := []) hX2 hl.1 (n_thrown hI2 (stp (cd_list τ) (ups τ 26 0 0 (τ 26 0 0 + 1)) τ)) (cwV 0 hts gL_law_X8_thrown rfl rfl rfl (by decide +kernel) ⟨Nat.le_of_ble_eq_true rfl, Nat.le_of_ble_eq_true rfl⟩) (rc_M hC2 w2) w2 hS hcs rfl rfl (Nat.le_of_ble_eq_true rfl) dL_law_186 (fun H3 locs3 w2 hS _ hk => ?_)
  replace w1 := la_k1 hA w1 hk
  replace hO := la_o hA hO hk
  replace hD := la_d hA hD hk
  clear hk
  obtain ⟨hv', h31⟩ := iv_list hvt hM.1 h031 
  refine k_top0 h31 ?_
  have hcd := cdr_list τ
  refine lv_iload hx hb dL_law_189 (lv_at hl 1 rfl) ?_
  refine k_icmp_eq (tgt := 196) hC1 dL_law_191 (by decide) ⟨⟨by omega, by omega⟩, ⟨by omega, by omega⟩⟩ (fun _ => ?_) (fun z => absurd rfl z)
  refine lv_iload hx hb dL_law_196 (lv_at hl 1 rfl) ?_
  refine k_if_ne (tgt := 213) hC1 dL_law_198 (by decide) ⟨by omega, by omega⟩ (fun z => ?_) (fun z => ?_)
  · refine lv_goto (tgt := 1722) hx hb dL_law_213 (by decide) ?_
    exact kk _ _ _ _ _ _ hv' ⟨w1, w2, hO, hD⟩ hS (lw_sub hl (fun q hq => List.mem_cons_of_mem _ (List.mem_cons_of_mem _ hq)))
  · refine lv_aload_n hx hb dL_law_201 rfl (lv_at hl 4 rfl) ?_
    refine k_iconst hC1 dL_law_202 ?_
    refine l_lald hx hb hK2 hO dL_law_203 ?_
    refine lv_iload hx hb dL_law_204 (lv_at hl 0 rfl) ?_
    refine lv_i2l hx hb dL_law_206 rfl ?_
    refine l_lcmp hx hb (by rw [z, bx_0, bi_0]) dL_law_207 ?_
    refine k_if_eq (tgt := 213) hC1 dL_law_208 (by decide) (by decide) (fun _ => ?_) (fun c9 => absurd rfl c9)
    refine lv_goto (tgt := 1722) hx hb dL_law_213 (by decide) ?_
    exact kk _ _ _ _ _ _ hv' ⟨w1, w2, hO, hD⟩ hS (lw_sub hl (fun q hq => List.mem_cons_of_mem _ (List.mem_cons_of_mem _ hq)))
set_option maxHeartbeats 2000000 in
set_option maxRecDepth 100000 in
theorem lc_line {p : Program} {l : Launch} {e : Env} {s : State} {m : MethodId} {below : List Frame} {meth : Method} {c : Code} {H : Heap} {locs : List Loc} {cells slots : Nat} {Q : State → Prop} {ls : Array Slot} {Dg : va_G} {cA : Nat → ClassId} {cL cD : ClassId} {ad1 ad2 : Nat → Int → Nat} {oc : Nat → Nat} {ao aD b L : Nat} {xs : Nat → Int32} {o : Int64} {d9 : UInt64} {σ : St} {N M i : Int} (hK : LK p l c s m meth b L xs Dg cA cL cD oc) (hA : LA ad1 ad2 ao aD s.heap.size) (hv : Inv N M σ) (hN : N ≤ 1000000) (hM : 0 ≤ M ∧ M ≤ 1000000) (hi : 0 ≤ i ∧ i + 5 ≤ L) (hcs : cells + 1 ≤ 603072 ∧ slots + 6 ≤ 7211114) (hW : LW Dg cA cL cD ad1 ad2 ao aD σ o d9 H) (hS : va_S (NA s.heap.size) s.heap H locs) (hl : lv_has ls 10 (lvL ad1 ad2 ao aD b i))
    (kk : ∀ (σ' : St) (o' : Int64) (d' : UInt64) (H1 : Heap) (locs1 : List Loc) (ls1 : Array Slot), Inv (N + 1) (M + 300) σ' → LW Dg cA cL cD ad1 ad2 ao aD σ' o' d' H1 → va_S (NA s.heap.size) s.heap H1 locs1 → lv_has ls1 10 (lvL ad1 ad2 ao aD b i) → W p l e room_1 s m #[Value.ref b] below meth c H1 locs1 (cells + 1) (slots + 6) Q (F0 m 1722 ls1 [])) : W p l e room_1 s m #[Value.ref b] below meth c H locs cells slots Q (F0 m 216 ls []) := by
  have hX0 := hK.1
  obtain ⟨hI1, hI2, hWN, -, -, hg1, hg2, hgo, hgD⟩ := id hA
  have hX1 := kx_any hX0 hI1 hg1
  have hX2 := kx_any hX0 hI2 hg2
  have hC1 := hX1.1
  have hC2 := hX2.1
  have hx := hC1.1
  have hb := hC1.2.1
  have hts := hC1.2.2.2.1
  have hK2 := hK.2.1
  have hNc := hK.2.2.1
  have hfl := hK.2.2.2.2.2.1
  have hcs2 : cells ≤ 603072 ∧ slots ≤ 7211114 := by omega
  have hl : lv_has ls 10 [(5, .int (zi i)), (4, .ref aD), (3, .ref ao), (2, .ref (ad2 0 0)), (1, .ref (ad1 0 0)), (0, .ref b)] := hl
  obtain ⟨τ, hτ⟩ : ∃ z, z = ups σ 31 0 0 0 := ⟨_, rfl⟩
  have w1 : WP Dg ccnt ad1 (cE cA ad1 τ) H := by rw [hτ]; exact hW.tau
  obtain ⟨-, w2, hO, hD⟩ := hW
  have hvt : Inv N M τ := by rw [hτ]; exact Inv_o31 hv
  have h031 : τ 31 0 0 = 0 := by rw [hτ, ups_eq]
  refine lv_aload_n hx hb dL_law_216 rfl (lv_at hl 4 rfl) ?_
  refine lv_aload_n hx hb dL_law_217 rfl (lv_at hl 5 rfl) ?_
  refine lv_iload hx hb dL_law_218 (lv_at hl 0 rfl) ?_
  refine k_iconst hC1 dL_law_220 ?_
  refine k_iadd hC1 dL_law_221 ?_
  refine l_sld hK hS (by omega) dL_law_222 ?_
  refine lv_aload_n hx hb dL_law_223 rfl (lv_at hl 5 rfl) ?_
  refine lv_iload hx hb dL_law_224 (lv_at hl 0 rfl) ?_
  refine k_iconst hC1 dL_law_226 ?_
  refine k_iadd hC1 dL_law_227 ?_
  refine l_sld hK hS (by omega) dL_law_228 ?_
  refine lv_aload_n hx hb dL_law_229 rfl (lv_at hl 5 rfl) ?_
  refine lv_iload hx hb dL_law_230 (lv_at hl 0 rfl) ?_
  refine k_iconst hC1 dL_law_232 ?_
  refine k_iadd hC1 dL_law_233 ?_
  refine l_sld hK hS (by omega) dL_law_234 ?_
  refine l_i2c hK dL_law_235 ?_
  refine lv_aload_n hx hb dL_law_236 rfl (lv_at hl 5 rfl) ?_
  refine lv_iload hx hb dL_law_237 (lv_at hl 0 rfl) ?_
  refine k_iconst hC1 dL_law_239 ?_
  refine k_iadd hC1 dL_law_240 ?_
  refine l_sld hK hS (by omega) dL_law_241 ?_
  refine lv_aload_n hx hb dL_law_242 rfl (lv_at hl 2 rfl) ?_
  refine l_callW (hh := [(0, 14, 17, 19), (0, 14, 21, 21), (0, 14, 25, 13)]) (As := [.ref (ad1 0 0), .int (zi (sx xs (i + 1))), .int (zi (sx xs (i + 2))), .int (zi (cx xs (i + 3))), .int (zi (sx xs (i + 4))), .ref ao]) (rest := []) hX1 hK2 hNc hgo hgD hl.1 (w_line hI1 hWN hfl τ (sx xs (i + 1)) (sx xs (i + 2)) (cx xs (i + 3)) (sx xs (i + 4)) hvt hN hM (sx_rng _ _) (sx_rng _ _) (cx_rng _ _) (sx_rng _ _) o d9) (vx_cwSW 6 hts gL_law_L_line rfl rfl rfl (by decide +kernel) ⟨Nat.le_of_ble_eq_true rfl, Nat.le_of_ble_eq_true rfl⟩) w1 hO hD hS hcs rfl rfl (Nat.le_of_ble_eq_true rfl) dL_law_243 (fun H1 locs1 w1 hO hD hS hk => ?_)
  replace w2 := la_k2 hA w2 hk
  clear hk
  refine lv_istore (lv' := [(6, .int (zi (cd_line τ (sx xs (i + 1)) (sx xs (i + 2)) (cx xs (i + 3)) (sx xs (i + 4))))), (5, .int (zi i)), (4, .ref aD), (3, .ref ao), (2, .ref (ad2 0 0)), (1, .ref (ad1 0 0)), (0, .ref b)]) hx hb dL_law_246 hl (by decide) rfl (fun ls hl => ?_)
  refine lv_aload_n hx hb dL_law_248 rfl (lv_at hl 4 rfl) ?_
  refine lv_aload_n hx hb dL_law_249 rfl (lv_at hl 6 rfl) ?_
  refine lv_iload hx hb dL_law_250 (lv_at hl 1 rfl) ?_
  refine k_iconst hC1 dL_law_252 ?_
  refine k_iadd hC1 dL_law_253 ?_
  refine l_sld hK hS (by omega) dL_law_254 ?_
  refine lv_aload_n hx hb dL_law_255 rfl (lv_at hl 6 rfl) ?_
  refine lv_iload hx hb dL_law_256 (lv_at hl 1 rfl) ?_
  refine k_iconst hC1 dL_law_258 ?_
  refine k_iadd hC1 dL_law_259 ?_
  refine l_sld hK hS (by omega) dL_law_260 ?_
  refine lv_aload_n hx hb dL_law_261 rfl (lv_at hl 6 rfl) ?_
  refine lv_iload hx hb dL_law_262 (lv_at hl 1 rfl) ?_
  refine k_iconst hC1 dL_law_264 ?_
  refine k_iadd hC1 dL_law_265 ?_
  refine l_sld hK hS (by omega) dL_law_266 ?_
  refine l_i2c hK dL_law_267 ?_
  refine lv_aload_n hx hb dL_law_268 rfl (lv_at hl 6 rfl) ?_
  refine lv_iload hx hb dL_law_269 (lv_at hl 1 rfl) ?_
  refine k_iconst hC1 dL_law_271 ?_
  refine k_iadd hC1 dL_law_272 ?_
  refine l_sld hK hS (by omega) dL_law_273 ?_
  refine k_callI (As := [.int (zi (sx xs (i + 1))), .int (zi (sx xs (i + 2))), .int (zi (cx xs (i + 3))), .int (zi (sx xs (i + 4)))]) (rest := []) hX2 hl.1 (q_line hI2 σ (sx xs (i + 1)) (sx xs (i + 2)) (cx xs (i + 3)) (sx xs (i + 4)) hτ hv hN hM (sx_rng _ _) (sx_rng _ _) (cx_rng _ _) (sx_rng _ _)) (cwV 4 hts gL_law_X8_line rfl rfl rfl (by decide +kernel) ⟨Nat.le_of_ble_eq_true rfl, Nat.le_of_ble_eq_true rfl⟩) (rc_M hC2 w2) w2 hS hcs rfl rfl (Nat.le_of_ble_eq_true rfl) dL_law_274 (fun H2 locs2 w2 hS _ hk => ?_)
  replace w1 := la_k1 hA w1 hk
  replace hO := la_o hA hO hk
  replace hD := la_d hA hD hk
  clear hk
  refine lv_istore (lv' := [(7, .int (zi (bi (cd_line τ (sx xs (i + 1)) (sx xs (i + 2)) (cx xs (i + 3)) (sx xs (i + 4))) (τ 3 (sx xs (i + 1)) 0 + 1) 0))), (6, .int (zi (cd_line τ (sx xs (i + 1)) (sx xs (i + 2)) (cx xs (i + 3)) (sx xs (i + 4))))), (5, .int (zi i)), (4, .ref aD), (3, .ref ao), (2, .ref (ad2 0 0)), (1, .ref (ad1 0 0)), (0, .ref b)]) hx hb dL_law_277 hl (by decide) rfl (fun ls hl => ?_)
  refine lv_aload_n hx hb dL_law_279 rfl (lv_at hl 5 rfl) ?_
  refine k_callI (As := []) (rest := []) hX2 hl.1 (n_thrown hI2 (stp (cd_line τ (sx xs (i + 1)) (sx xs (i + 2)) (cx xs (i + 3)) (sx xs (i + 4))) (fIns τ (sx xs (i + 1)) (sx xs (i + 2)) (cx xs (i + 3)) (sx xs (i + 4))) τ)) (cwV 0 hts gL_law_X8_thrown rfl rfl rfl (by decide +kernel) ⟨Nat.le_of_ble_eq_true rfl, Nat.le_of_ble_eq_true rfl⟩) (rc_M hC2 w2) w2 hS hcs rfl rfl (Nat.le_of_ble_eq_true rfl) dL_law_280 (fun H3 locs3 w2 hS _ hk => ?_)
  replace w1 := la_k1 hA w1 hk
  replace hO := la_o hA hO hk
  replace hD := la_d hA hD hk
  clear hk
  obtain ⟨hv', h31⟩ := iv_line (sx xs (i + 1)) (sx xs (i + 2)) (cx xs (i + 3)) (sx xs (i + 4)) hvt hM.1 h031 (sx_rng _ _) (sx_rng _ _) (cx_rng _ _) (sx_rng _ _)
  refine k_top0 h31 ?_
  have hcd := cdr_line τ (sx xs (i + 1)) (sx xs (i + 2)) (cx xs (i + 3)) (sx xs (i + 4))
  refine lv_iload hx hb dL_law_283 (lv_at hl 1 rfl) ?_
  refine k_icmp_eq (tgt := 290) hC1 dL_law_285 (by decide) ⟨⟨by omega, by omega⟩, ⟨by omega, by omega⟩⟩ (fun _ => ?_) (fun z => absurd rfl z)
  refine lv_iload hx hb dL_law_290 (lv_at hl 1 rfl) ?_
  refine k_if_ne (tgt := 307) hC1 dL_law_292 (by decide) ⟨by omega, by omega⟩ (fun z => ?_) (fun z => ?_)
  · refine lv_goto (tgt := 1722) hx hb dL_law_307 (by decide) ?_
    exact kk _ _ _ _ _ _ hv' ⟨w1, w2, hO, hD⟩ hS (lw_sub hl (fun q hq => List.mem_cons_of_mem _ (List.mem_cons_of_mem _ hq)))
  · refine lv_aload_n hx hb dL_law_295 rfl (lv_at hl 4 rfl) ?_
    refine k_iconst hC1 dL_law_296 ?_
    refine l_lald hx hb hK2 hO dL_law_297 ?_
    refine lv_iload hx hb dL_law_298 (lv_at hl 0 rfl) ?_
    refine lv_i2l hx hb dL_law_300 rfl ?_
    refine l_lcmp hx hb (by rw [z, bx_0, bi_0]) dL_law_301 ?_
    refine k_if_eq (tgt := 307) hC1 dL_law_302 (by decide) (by decide) (fun _ => ?_) (fun c9 => absurd rfl c9)
    refine lv_goto (tgt := 1722) hx hb dL_law_307 (by decide) ?_
    exact kk _ _ _ _ _ _ hv' ⟨w1, w2, hO, hD⟩ hS (lw_sub hl (fun q hq => List.mem_cons_of_mem _ (List.mem_cons_of_mem _ hq)))
set_option maxHeartbeats 2000000 in
set_option maxRecDepth 100000 in
theorem lc_cut {p : Program} {l : Launch} {e : Env} {s : State} {m : MethodId} {below : List Frame} {meth : Method} {c : Code} {H : Heap} {locs : List Loc} {cells slots : Nat} {Q : State → Prop} {ls : Array Slot} {Dg : va_G} {cA : Nat → ClassId} {cL cD : ClassId} {ad1 ad2 : Nat → Int → Nat} {oc : Nat → Nat} {ao aD b L : Nat} {xs : Nat → Int32} {o : Int64} {d9 : UInt64} {σ : St} {N M i : Int} (hK : LK p l c s m meth b L xs Dg cA cL cD oc) (hA : LA ad1 ad2 ao aD s.heap.size) (hv : Inv N M σ) (hN : N ≤ 1000000) (hM : 0 ≤ M ∧ M ≤ 1000000) (hi : 0 ≤ i ∧ i + 5 ≤ L) (hcs : cells + 1 ≤ 603072 ∧ slots + 6 ≤ 7211114) (hW : LW Dg cA cL cD ad1 ad2 ao aD σ o d9 H) (hS : va_S (NA s.heap.size) s.heap H locs) (hl : lv_has ls 10 (lvL ad1 ad2 ao aD b i))
    (kk : ∀ (σ' : St) (o' : Int64) (d' : UInt64) (H1 : Heap) (locs1 : List Loc) (ls1 : Array Slot), Inv (N + 1) (M + 300) σ' → LW Dg cA cL cD ad1 ad2 ao aD σ' o' d' H1 → va_S (NA s.heap.size) s.heap H1 locs1 → lv_has ls1 10 (lvL ad1 ad2 ao aD b i) → W p l e room_1 s m #[Value.ref b] below meth c H1 locs1 (cells + 1) (slots + 6) Q (F0 m 1722 ls1 [])) : W p l e room_1 s m #[Value.ref b] below meth c H locs cells slots Q (F0 m 310 ls []) := by
  have hX0 := hK.1
  obtain ⟨hI1, hI2, hWN, -, -, hg1, hg2, hgo, hgD⟩ := id hA
  have hX1 := kx_any hX0 hI1 hg1
  have hX2 := kx_any hX0 hI2 hg2
  have hC1 := hX1.1
  have hC2 := hX2.1
  have hx := hC1.1
  have hb := hC1.2.1
  have hts := hC1.2.2.2.1
  have hK2 := hK.2.1
  have hNc := hK.2.2.1
  have hfl := hK.2.2.2.2.2.1
  have hcs2 : cells ≤ 603072 ∧ slots ≤ 7211114 := by omega
  have hl : lv_has ls 10 [(5, .int (zi i)), (4, .ref aD), (3, .ref ao), (2, .ref (ad2 0 0)), (1, .ref (ad1 0 0)), (0, .ref b)] := hl
  obtain ⟨τ, hτ⟩ : ∃ z, z = ups σ 31 0 0 0 := ⟨_, rfl⟩
  have w1 : WP Dg ccnt ad1 (cE cA ad1 τ) H := by rw [hτ]; exact hW.tau
  obtain ⟨-, w2, hO, hD⟩ := hW
  have hvt : Inv N M τ := by rw [hτ]; exact Inv_o31 hv
  have h031 : τ 31 0 0 = 0 := by rw [hτ, ups_eq]
  refine lv_aload_n hx hb dL_law_310 rfl (lv_at hl 4 rfl) ?_
  refine lv_aload_n hx hb dL_law_311 rfl (lv_at hl 5 rfl) ?_
  refine lv_iload hx hb dL_law_312 (lv_at hl 0 rfl) ?_
  refine k_iconst hC1 dL_law_314 ?_
  refine k_iadd hC1 dL_law_315 ?_
  refine l_sld hK hS (by omega) dL_law_316 ?_
  refine lv_aload_n hx hb dL_law_317 rfl (lv_at hl 5 rfl) ?_
  refine lv_iload hx hb dL_law_318 (lv_at hl 0 rfl) ?_
  refine k_iconst hC1 dL_law_320 ?_
  refine k_iadd hC1 dL_law_321 ?_
  refine l_sld hK hS (by omega) dL_law_322 ?_
  refine lv_aload_n hx hb dL_law_323 rfl (lv_at hl 2 rfl) ?_
  refine l_callW (hh := [(0, 10, 13, 19)]) (As := [.ref (ad1 0 0), .int (zi (sx xs (i + 1))), .int (zi (sx xs (i + 2))), .ref ao]) (rest := []) hX1 hK2 hNc hgo hgD hl.1 (w_cut hI1 hWN hfl τ (sx xs (i + 1)) (sx xs (i + 2)) hvt hN hM (sx_rng _ _) (sx_rng _ _) o d9) (vx_cwSW 4 hts gL_law_L_cut rfl rfl rfl (by decide +kernel) ⟨Nat.le_of_ble_eq_true rfl, Nat.le_of_ble_eq_true rfl⟩) w1 hO hD hS hcs rfl rfl (Nat.le_of_ble_eq_true rfl) dL_law_324 (fun H1 locs1 w1 hO hD hS hk => ?_)
  replace w2 := la_k2 hA w2 hk
  clear hk
  refine lv_istore (lv' := [(6, .int (zi (cd_cut τ (sx xs (i + 1)) (sx xs (i + 2))))), (5, .int (zi i)), (4, .ref aD), (3, .ref ao), (2, .ref (ad2 0 0)), (1, .ref (ad1 0 0)), (0, .ref b)]) hx hb dL_law_327 hl (by decide) rfl (fun ls hl => ?_)
  refine lv_aload_n hx hb dL_law_329 rfl (lv_at hl 4 rfl) ?_
  refine lv_aload_n hx hb dL_law_330 rfl (lv_at hl 6 rfl) ?_
  refine lv_iload hx hb dL_law_331 (lv_at hl 1 rfl) ?_
  refine k_iconst hC1 dL_law_333 ?_
  refine k_iadd hC1 dL_law_334 ?_
  refine l_sld hK hS (by omega) dL_law_335 ?_
  refine lv_aload_n hx hb dL_law_336 rfl (lv_at hl 6 rfl) ?_
  refine lv_iload hx hb dL_law_337 (lv_at hl 1 rfl) ?_
  refine k_iconst hC1 dL_law_339 ?_
  refine k_iadd hC1 dL_law_340 ?_
  refine l_sld hK hS (by omega) dL_law_341 ?_
  refine k_callI (As := [.int (zi (sx xs (i + 1))), .int (zi (sx xs (i + 2)))]) (rest := []) hX2 hl.1 (q_cut hI2 σ (sx xs (i + 1)) (sx xs (i + 2)) hτ hv hN hM (sx_rng _ _) (sx_rng _ _)) (cwV 2 hts gL_law_X8_cut rfl rfl rfl (by decide +kernel) ⟨Nat.le_of_ble_eq_true rfl, Nat.le_of_ble_eq_true rfl⟩) (rc_M hC2 w2) w2 hS hcs rfl rfl (Nat.le_of_ble_eq_true rfl) dL_law_342 (fun H2 locs2 w2 hS _ hk => ?_)
  replace w1 := la_k1 hA w1 hk
  replace hO := la_o hA hO hk
  replace hD := la_d hA hD hk
  clear hk
  refine lv_istore (lv' := [(7, .int (zi (bi (cd_cut τ (sx xs (i + 1)) (sx xs (i + 2))) (τ 1 (sx xs (i + 1)) (sx xs (i + 2))) 45))), (6, .int (zi (cd_cut τ (sx xs (i + 1)) (sx xs (i + 2))))), (5, .int (zi i)), (4, .ref aD), (3, .ref ao), (2, .ref (ad2 0 0)), (1, .ref (ad1 0 0)), (0, .ref b)]) hx hb dL_law_345 hl (by decide) rfl (fun ls hl => ?_)
  refine lv_aload_n hx hb dL_law_347 rfl (lv_at hl 5 rfl) ?_
  refine k_callI (As := []) (rest := []) hX2 hl.1 (n_thrown hI2 (stp (cd_cut τ (sx xs (i + 1)) (sx xs (i + 2))) (fRem τ (sx xs (i + 1)) (sx xs (i + 2))) τ)) (cwV 0 hts gL_law_X8_thrown rfl rfl rfl (by decide +kernel) ⟨Nat.le_of_ble_eq_true rfl, Nat.le_of_ble_eq_true rfl⟩) (rc_M hC2 w2) w2 hS hcs rfl rfl (Nat.le_of_ble_eq_true rfl) dL_law_348 (fun H3 locs3 w2 hS _ hk => ?_)
  replace w1 := la_k1 hA w1 hk
  replace hO := la_o hA hO hk
  replace hD := la_d hA hD hk
  clear hk
  obtain ⟨hv', h31⟩ := iv_cut (sx xs (i + 1)) (sx xs (i + 2)) hvt hM.1 h031 (sx_rng _ _) (sx_rng _ _)
  refine k_top0 h31 ?_
  have hcd := cdr_cut τ (sx xs (i + 1)) (sx xs (i + 2))
  refine lv_iload hx hb dL_law_351 (lv_at hl 1 rfl) ?_
  refine k_icmp_eq (tgt := 358) hC1 dL_law_353 (by decide) ⟨⟨by omega, by omega⟩, ⟨by omega, by omega⟩⟩ (fun _ => ?_) (fun z => absurd rfl z)
  refine lv_iload hx hb dL_law_358 (lv_at hl 1 rfl) ?_
  refine k_if_ne (tgt := 375) hC1 dL_law_360 (by decide) ⟨by omega, by omega⟩ (fun z => ?_) (fun z => ?_)
  · refine lv_goto (tgt := 1722) hx hb dL_law_375 (by decide) ?_
    exact kk _ _ _ _ _ _ hv' ⟨w1, w2, hO, hD⟩ hS (lw_sub hl (fun q hq => List.mem_cons_of_mem _ (List.mem_cons_of_mem _ hq)))
  · refine lv_aload_n hx hb dL_law_363 rfl (lv_at hl 4 rfl) ?_
    refine k_iconst hC1 dL_law_364 ?_
    refine l_lald hx hb hK2 hO dL_law_365 ?_
    refine lv_iload hx hb dL_law_366 (lv_at hl 0 rfl) ?_
    refine lv_i2l hx hb dL_law_368 rfl ?_
    refine l_lcmp hx hb (by rw [z, bx_0, bi_0]) dL_law_369 ?_
    refine k_if_eq (tgt := 375) hC1 dL_law_370 (by decide) (by decide) (fun _ => ?_) (fun c9 => absurd rfl c9)
    refine lv_goto (tgt := 1722) hx hb dL_law_375 (by decide) ?_
    exact kk _ _ _ _ _ _ hv' ⟨w1, w2, hO, hD⟩ hS (lw_sub hl (fun q hq => List.mem_cons_of_mem _ (List.mem_cons_of_mem _ hq)))
set_option maxHeartbeats 2000000 in
set_option maxRecDepth 100000 in
theorem lc_lines {p : Program} {l : Launch} {e : Env} {s : State} {m : MethodId} {below : List Frame} {meth : Method} {c : Code} {H : Heap} {locs : List Loc} {cells slots : Nat} {Q : State → Prop} {ls : Array Slot} {Dg : va_G} {cA : Nat → ClassId} {cL cD : ClassId} {ad1 ad2 : Nat → Int → Nat} {oc : Nat → Nat} {ao aD b L : Nat} {xs : Nat → Int32} {o : Int64} {d9 : UInt64} {σ : St} {N M i : Int} (hK : LK p l c s m meth b L xs Dg cA cL cD oc) (hA : LA ad1 ad2 ao aD s.heap.size) (hv : Inv N M σ) (hN : N ≤ 1000000) (hM : 0 ≤ M ∧ M ≤ 1000000) (hi : 0 ≤ i ∧ i + 5 ≤ L) (hcs : cells + 1 ≤ 603072 ∧ slots + 6 ≤ 7211114) (hW : LW Dg cA cL cD ad1 ad2 ao aD σ o d9 H) (hS : va_S (NA s.heap.size) s.heap H locs) (hl : lv_has ls 10 (lvL ad1 ad2 ao aD b i))
    (kk : ∀ (σ' : St) (o' : Int64) (d' : UInt64) (H1 : Heap) (locs1 : List Loc) (ls1 : Array Slot), Inv (N + 1) (M + 300) σ' → LW Dg cA cL cD ad1 ad2 ao aD σ' o' d' H1 → va_S (NA s.heap.size) s.heap H1 locs1 → lv_has ls1 10 (lvL ad1 ad2 ao aD b i) → W p l e room_1 s m #[Value.ref b] below meth c H1 locs1 (cells + 1) (slots + 6) Q (F0 m 1722 ls1 [])) : W p l e room_1 s m #[Value.ref b] below meth c H locs cells slots Q (F0 m 378 ls []) := by
  have hX0 := hK.1
  obtain ⟨hI1, hI2, hWN, -, -, hg1, hg2, hgo, hgD⟩ := id hA
  have hX1 := kx_any hX0 hI1 hg1
  have hX2 := kx_any hX0 hI2 hg2
  have hC1 := hX1.1
  have hC2 := hX2.1
  have hx := hC1.1
  have hb := hC1.2.1
  have hts := hC1.2.2.2.1
  have hK2 := hK.2.1
  have hNc := hK.2.2.1
  have hfl := hK.2.2.2.2.2.1
  have hcs2 : cells ≤ 603072 ∧ slots ≤ 7211114 := by omega
  have hl : lv_has ls 10 [(5, .int (zi i)), (4, .ref aD), (3, .ref ao), (2, .ref (ad2 0 0)), (1, .ref (ad1 0 0)), (0, .ref b)] := hl
  obtain ⟨τ, hτ⟩ : ∃ z, z = ups σ 31 0 0 0 := ⟨_, rfl⟩
  have w1 : WP Dg ccnt ad1 (cE cA ad1 τ) H := by rw [hτ]; exact hW.tau
  obtain ⟨-, w2, hO, hD⟩ := hW
  have hvt : Inv N M τ := by rw [hτ]; exact Inv_o31 hv
  have h031 : τ 31 0 0 = 0 := by rw [hτ, ups_eq]
  refine lv_aload_n hx hb dL_law_378 rfl (lv_at hl 4 rfl) ?_
  refine lv_aload_n hx hb dL_law_379 rfl (lv_at hl 5 rfl) ?_
  refine lv_iload hx hb dL_law_380 (lv_at hl 0 rfl) ?_
  refine k_iconst hC1 dL_law_382 ?_
  refine k_iadd hC1 dL_law_383 ?_
  refine l_sld hK hS (by omega) dL_law_384 ?_
  refine lv_aload_n hx hb dL_law_385 rfl (lv_at hl 5 rfl) ?_
  refine lv_iload hx hb dL_law_386 (lv_at hl 0 rfl) ?_
  refine k_iconst hC1 dL_law_388 ?_
  refine k_iadd hC1 dL_law_389 ?_
  refine l_sld hK hS (by omega) dL_law_390 ?_
  refine l_i2c hK dL_law_391 ?_
  refine lv_aload_n hx hb dL_law_392 rfl (lv_at hl 2 rfl) ?_
  refine l_callW (hh := [(0, 10, 13, 19), (0, 10, 17, 21)]) (As := [.ref (ad1 0 0), .int (zi (sx xs (i + 1))), .int (zi (cx xs (i + 2))), .ref ao]) (rest := []) hX1 hK2 hNc hgo hgD hl.1 (w_lines hI1 hWN hfl τ (sx xs (i + 1)) (cx xs (i + 2)) hvt hN hM (sx_rng _ _) (cx_rng _ _) o d9) (vx_cwSW 4 hts gL_law_L_lines rfl rfl rfl (by decide +kernel) ⟨Nat.le_of_ble_eq_true rfl, Nat.le_of_ble_eq_true rfl⟩) w1 hO hD hS hcs rfl rfl (Nat.le_of_ble_eq_true rfl) dL_law_393 (fun H1 locs1 w1 hO hD hS hk => ?_)
  replace w2 := la_k2 hA w2 hk
  clear hk
  refine lv_istore (lv' := [(6, .int (zi (cd_lines τ (sx xs (i + 1)) (cx xs (i + 2))))), (5, .int (zi i)), (4, .ref aD), (3, .ref ao), (2, .ref (ad2 0 0)), (1, .ref (ad1 0 0)), (0, .ref b)]) hx hb dL_law_396 hl (by decide) rfl (fun ls hl => ?_)
  refine lv_aload_n hx hb dL_law_398 rfl (lv_at hl 4 rfl) ?_
  refine lv_aload_n hx hb dL_law_399 rfl (lv_at hl 6 rfl) ?_
  refine lv_iload hx hb dL_law_400 (lv_at hl 1 rfl) ?_
  refine k_iconst hC1 dL_law_402 ?_
  refine k_iadd hC1 dL_law_403 ?_
  refine l_sld hK hS (by omega) dL_law_404 ?_
  refine lv_aload_n hx hb dL_law_405 rfl (lv_at hl 6 rfl) ?_
  refine lv_iload hx hb dL_law_406 (lv_at hl 1 rfl) ?_
  refine k_iconst hC1 dL_law_408 ?_
  refine k_iadd hC1 dL_law_409 ?_
  refine l_sld hK hS (by omega) dL_law_410 ?_
  refine l_i2c hK dL_law_411 ?_
  refine k_callI (As := [.int (zi (sx xs (i + 1))), .int (zi (cx xs (i + 2)))]) (rest := []) hX2 hl.1 (q_lines hI2 σ (sx xs (i + 1)) (cx xs (i + 2)) hτ hv hN hM (sx_rng _ _) (cx_rng _ _)) (cwV 2 hts gL_law_X8_lines rfl rfl rfl (by decide +kernel) ⟨Nat.le_of_ble_eq_true rfl, Nat.le_of_ble_eq_true rfl⟩) (rc_M hC2 w2) w2 hS hcs rfl rfl (Nat.le_of_ble_eq_true rfl) dL_law_412 (fun H2 locs2 w2 hS _ hk => ?_)
  replace w1 := la_k1 hA w1 hk
  replace hO := la_o hA hO hk
  replace hD := la_d hA hD hk
  clear hk
  refine lv_istore (lv' := [(7, .int (zi (bi (cd_lines τ (sx xs (i + 1)) (cx xs (i + 2))) (cN (fun j => decide (τ 1 (sx xs (i + 1)) j = (cx xs (i + 2)))) (τ 3 (sx xs (i + 1)) 0)) 0))), (6, .int (zi (cd_lines τ (sx xs (i + 1)) (cx xs (i + 2))))), (5, .int (zi i)), (4, .ref aD), (3, .ref ao), (2, .ref (ad2 0 0)), (1, .ref (ad1 0 0)), (0, .ref b)]) hx hb dL_law_415 hl (by decide) rfl (fun ls hl => ?_)
  refine lv_aload_n hx hb dL_law_417 rfl (lv_at hl 5 rfl) ?_
  refine k_callI (As := []) (rest := []) hX2 hl.1 (n_thrown hI2 (stp (cd_lines τ (sx xs (i + 1)) (cx xs (i + 2))) τ τ)) (cwV 0 hts gL_law_X8_thrown rfl rfl rfl (by decide +kernel) ⟨Nat.le_of_ble_eq_true rfl, Nat.le_of_ble_eq_true rfl⟩) (rc_M hC2 w2) w2 hS hcs rfl rfl (Nat.le_of_ble_eq_true rfl) dL_law_418 (fun H3 locs3 w2 hS _ hk => ?_)
  replace w1 := la_k1 hA w1 hk
  replace hO := la_o hA hO hk
  replace hD := la_d hA hD hk
  clear hk
  obtain ⟨hv', h31⟩ := iv_lines (sx xs (i + 1)) (cx xs (i + 2)) hvt hM.1 h031 (sx_rng _ _) (cx_rng _ _)
  refine k_top0 h31 ?_
  have hcd := cdr_lines τ (sx xs (i + 1)) (cx xs (i + 2))
  refine lv_iload hx hb dL_law_421 (lv_at hl 1 rfl) ?_
  refine k_icmp_eq (tgt := 428) hC1 dL_law_423 (by decide) ⟨⟨by omega, by omega⟩, ⟨by omega, by omega⟩⟩ (fun _ => ?_) (fun z => absurd rfl z)
  refine lv_iload hx hb dL_law_428 (lv_at hl 1 rfl) ?_
  refine k_if_ne (tgt := 445) hC1 dL_law_430 (by decide) ⟨by omega, by omega⟩ (fun z => ?_) (fun z => ?_)
  · refine lv_goto (tgt := 1722) hx hb dL_law_445 (by decide) ?_
    exact kk _ _ _ _ _ _ hv' ⟨w1, w2, hO, hD⟩ hS (lw_sub hl (fun q hq => List.mem_cons_of_mem _ (List.mem_cons_of_mem _ hq)))
  · refine lv_aload_n hx hb dL_law_433 rfl (lv_at hl 4 rfl) ?_
    refine k_iconst hC1 dL_law_434 ?_
    refine l_lald hx hb hK2 hO dL_law_435 ?_
    refine lv_iload hx hb dL_law_436 (lv_at hl 0 rfl) ?_
    refine lv_i2l hx hb dL_law_438 rfl ?_
    refine l_lcmp hx hb (by rw [z, bx_0, bi_0]) dL_law_439 ?_
    refine k_if_eq (tgt := 445) hC1 dL_law_440 (by decide) (by decide) (fun _ => ?_) (fun c9 => absurd rfl c9)
    refine lv_goto (tgt := 1722) hx hb dL_law_445 (by decide) ?_
    exact kk _ _ _ _ _ _ hv' ⟨w1, w2, hO, hD⟩ hS (lw_sub hl (fun q hq => List.mem_cons_of_mem _ (List.mem_cons_of_mem _ hq)))
set_option maxHeartbeats 2000000 in
set_option maxRecDepth 100000 in
theorem lc_kiosk {p : Program} {l : Launch} {e : Env} {s : State} {m : MethodId} {below : List Frame} {meth : Method} {c : Code} {H : Heap} {locs : List Loc} {cells slots : Nat} {Q : State → Prop} {ls : Array Slot} {Dg : va_G} {cA : Nat → ClassId} {cL cD : ClassId} {ad1 ad2 : Nat → Int → Nat} {oc : Nat → Nat} {ao aD b L : Nat} {xs : Nat → Int32} {o : Int64} {d9 : UInt64} {σ : St} {N M i : Int} (hK : LK p l c s m meth b L xs Dg cA cL cD oc) (hA : LA ad1 ad2 ao aD s.heap.size) (hv : Inv N M σ) (hN : N ≤ 1000000) (hM : 0 ≤ M ∧ M ≤ 1000000) (hi : 0 ≤ i ∧ i + 5 ≤ L) (hcs : cells + 1 ≤ 603072 ∧ slots + 6 ≤ 7211114) (hW : LW Dg cA cL cD ad1 ad2 ao aD σ o d9 H) (hS : va_S (NA s.heap.size) s.heap H locs) (hl : lv_has ls 10 (lvL ad1 ad2 ao aD b i))
    (kk : ∀ (σ' : St) (o' : Int64) (d' : UInt64) (H1 : Heap) (locs1 : List Loc) (ls1 : Array Slot), Inv (N + 1) (M + 300) σ' → LW Dg cA cL cD ad1 ad2 ao aD σ' o' d' H1 → va_S (NA s.heap.size) s.heap H1 locs1 → lv_has ls1 10 (lvL ad1 ad2 ao aD b i) → W p l e room_1 s m #[Value.ref b] below meth c H1 locs1 (cells + 1) (slots + 6) Q (F0 m 1722 ls1 [])) : W p l e room_1 s m #[Value.ref b] below meth c H locs cells slots Q (F0 m 448 ls []) := by
  have hX0 := hK.1
  obtain ⟨hI1, hI2, hWN, -, -, hg1, hg2, hgo, hgD⟩ := id hA
  have hX1 := kx_any hX0 hI1 hg1
  have hX2 := kx_any hX0 hI2 hg2
  have hC1 := hX1.1
  have hC2 := hX2.1
  have hx := hC1.1
  have hb := hC1.2.1
  have hts := hC1.2.2.2.1
  have hK2 := hK.2.1
  have hNc := hK.2.2.1
  have hfl := hK.2.2.2.2.2.1
  have hcs2 : cells ≤ 603072 ∧ slots ≤ 7211114 := by omega
  have hl : lv_has ls 10 [(5, .int (zi i)), (4, .ref aD), (3, .ref ao), (2, .ref (ad2 0 0)), (1, .ref (ad1 0 0)), (0, .ref b)] := hl
  obtain ⟨τ, hτ⟩ : ∃ z, z = ups σ 31 0 0 0 := ⟨_, rfl⟩
  have w1 : WP Dg ccnt ad1 (cE cA ad1 τ) H := by rw [hτ]; exact hW.tau
  obtain ⟨-, w2, hO, hD⟩ := hW
  have hvt : Inv N M τ := by rw [hτ]; exact Inv_o31 hv
  have h031 : τ 31 0 0 = 0 := by rw [hτ, ups_eq]
  refine lv_aload_n hx hb dL_law_448 rfl (lv_at hl 4 rfl) ?_
  refine lv_aload_n hx hb dL_law_449 rfl (lv_at hl 2 rfl) ?_
  refine l_callW (hh := [(0, 8, 11, 13)]) (As := [.ref (ad1 0 0), .ref ao]) (rest := []) hX1 hK2 hNc hgo hgD hl.1 (w_kiosk hI1 hWN hfl τ hvt hN hM  o d9) (vx_cwSW 2 hts gL_law_L_kiosk rfl rfl rfl (by decide +kernel) ⟨Nat.le_of_ble_eq_true rfl, Nat.le_of_ble_eq_true rfl⟩) w1 hO hD hS hcs rfl rfl (Nat.le_of_ble_eq_true rfl) dL_law_450 (fun H1 locs1 w1 hO hD hS hk => ?_)
  replace w2 := la_k2 hA w2 hk
  clear hk
  refine lv_istore (lv' := [(6, .int (zi (cd_kiosk τ))), (5, .int (zi i)), (4, .ref aD), (3, .ref ao), (2, .ref (ad2 0 0)), (1, .ref (ad1 0 0)), (0, .ref b)]) hx hb dL_law_453 hl (by decide) rfl (fun ls hl => ?_)
  refine lv_aload_n hx hb dL_law_455 rfl (lv_at hl 4 rfl) ?_
  refine k_callI (As := []) (rest := []) hX2 hl.1 (q_kiosk hI2 σ hτ hv hN hM ) (cwV 0 hts gL_law_X8_kiosk rfl rfl rfl (by decide +kernel) ⟨Nat.le_of_ble_eq_true rfl, Nat.le_of_ble_eq_true rfl⟩) (rc_M hC2 w2) w2 hS hcs rfl rfl (Nat.le_of_ble_eq_true rfl) dL_law_456 (fun H2 locs2 w2 hS _ hk => ?_)
  replace w1 := la_k1 hA w1 hk
  replace hO := la_o hA hO hk
  replace hD := la_d hA hD hk
  clear hk
  refine lv_istore (lv' := [(7, .int (zi (bi (cd_kiosk τ) (τ 27 0 0) 0))), (6, .int (zi (cd_kiosk τ))), (5, .int (zi i)), (4, .ref aD), (3, .ref ao), (2, .ref (ad2 0 0)), (1, .ref (ad1 0 0)), (0, .ref b)]) hx hb dL_law_459 hl (by decide) rfl (fun ls hl => ?_)
  refine lv_aload_n hx hb dL_law_461 rfl (lv_at hl 5 rfl) ?_
  refine k_callI (As := []) (rest := []) hX2 hl.1 (n_thrown hI2 (stp (cd_kiosk τ) (ups τ 27 0 0 (τ 27 0 0 + 1)) τ)) (cwV 0 hts gL_law_X8_thrown rfl rfl rfl (by decide +kernel) ⟨Nat.le_of_ble_eq_true rfl, Nat.le_of_ble_eq_true rfl⟩) (rc_M hC2 w2) w2 hS hcs rfl rfl (Nat.le_of_ble_eq_true rfl) dL_law_462 (fun H3 locs3 w2 hS _ hk => ?_)
  replace w1 := la_k1 hA w1 hk
  replace hO := la_o hA hO hk
  replace hD := la_d hA hD hk
  clear hk
  obtain ⟨hv', h31⟩ := iv_kiosk hvt hM.1 h031 
  refine k_top0 h31 ?_
  have hcd := cdr_kiosk τ
  refine lv_iload hx hb dL_law_465 (lv_at hl 1 rfl) ?_
  refine k_icmp_eq (tgt := 472) hC1 dL_law_467 (by decide) ⟨⟨by omega, by omega⟩, ⟨by omega, by omega⟩⟩ (fun _ => ?_) (fun z => absurd rfl z)
  refine lv_iload hx hb dL_law_472 (lv_at hl 1 rfl) ?_
  refine k_if_ne (tgt := 489) hC1 dL_law_474 (by decide) ⟨by omega, by omega⟩ (fun z => ?_) (fun z => ?_)
  · refine lv_goto (tgt := 1722) hx hb dL_law_489 (by decide) ?_
    exact kk _ _ _ _ _ _ hv' ⟨w1, w2, hO, hD⟩ hS (lw_sub hl (fun q hq => List.mem_cons_of_mem _ (List.mem_cons_of_mem _ hq)))
  · refine lv_aload_n hx hb dL_law_477 rfl (lv_at hl 4 rfl) ?_
    refine k_iconst hC1 dL_law_478 ?_
    refine l_lald hx hb hK2 hO dL_law_479 ?_
    refine lv_iload hx hb dL_law_480 (lv_at hl 0 rfl) ?_
    refine lv_i2l hx hb dL_law_482 rfl ?_
    refine l_lcmp hx hb (by rw [z, bx_0, bi_0]) dL_law_483 ?_
    refine k_if_eq (tgt := 489) hC1 dL_law_484 (by decide) (by decide) (fun _ => ?_) (fun c9 => absurd rfl c9)
    refine lv_goto (tgt := 1722) hx hb dL_law_489 (by decide) ?_
    exact kk _ _ _ _ _ _ hv' ⟨w1, w2, hO, hD⟩ hS (lw_sub hl (fun q hq => List.mem_cons_of_mem _ (List.mem_cons_of_mem _ hq)))
set_option maxHeartbeats 2000000 in
set_option maxRecDepth 100000 in
theorem lc_start {p : Program} {l : Launch} {e : Env} {s : State} {m : MethodId} {below : List Frame} {meth : Method} {c : Code} {H : Heap} {locs : List Loc} {cells slots : Nat} {Q : State → Prop} {ls : Array Slot} {Dg : va_G} {cA : Nat → ClassId} {cL cD : ClassId} {ad1 ad2 : Nat → Int → Nat} {oc : Nat → Nat} {ao aD b L : Nat} {xs : Nat → Int32} {o : Int64} {d9 : UInt64} {σ : St} {N M i : Int} (hK : LK p l c s m meth b L xs Dg cA cL cD oc) (hA : LA ad1 ad2 ao aD s.heap.size) (hv : Inv N M σ) (hN : N ≤ 1000000) (hM : 0 ≤ M ∧ M ≤ 1000000) (hi : 0 ≤ i ∧ i + 5 ≤ L) (hcs : cells + 1 ≤ 603072 ∧ slots + 6 ≤ 7211114) (hW : LW Dg cA cL cD ad1 ad2 ao aD σ o d9 H) (hS : va_S (NA s.heap.size) s.heap H locs) (hl : lv_has ls 10 (lvL ad1 ad2 ao aD b i))
    (kk : ∀ (σ' : St) (o' : Int64) (d' : UInt64) (H1 : Heap) (locs1 : List Loc) (ls1 : Array Slot), Inv (N + 1) (M + 300) σ' → LW Dg cA cL cD ad1 ad2 ao aD σ' o' d' H1 → va_S (NA s.heap.size) s.heap H1 locs1 → lv_has ls1 10 (lvL ad1 ad2 ao aD b i) → W p l e room_1 s m #[Value.ref b] below meth c H1 locs1 (cells + 1) (slots + 6) Q (F0 m 1722 ls1 [])) : W p l e room_1 s m #[Value.ref b] below meth c H locs cells slots Q (F0 m 492 ls []) := by
  have hX0 := hK.1
  obtain ⟨hI1, hI2, hWN, -, -, hg1, hg2, hgo, hgD⟩ := id hA
  have hX1 := kx_any hX0 hI1 hg1
  have hX2 := kx_any hX0 hI2 hg2
  have hC1 := hX1.1
  have hC2 := hX2.1
  have hx := hC1.1
  have hb := hC1.2.1
  have hts := hC1.2.2.2.1
  have hK2 := hK.2.1
  have hNc := hK.2.2.1
  have hfl := hK.2.2.2.2.2.1
  have hcs2 : cells ≤ 603072 ∧ slots ≤ 7211114 := by omega
  have hl : lv_has ls 10 [(5, .int (zi i)), (4, .ref aD), (3, .ref ao), (2, .ref (ad2 0 0)), (1, .ref (ad1 0 0)), (0, .ref b)] := hl
  obtain ⟨τ, hτ⟩ : ∃ z, z = ups σ 31 0 0 0 := ⟨_, rfl⟩
  have w1 : WP Dg ccnt ad1 (cE cA ad1 τ) H := by rw [hτ]; exact hW.tau
  obtain ⟨-, w2, hO, hD⟩ := hW
  have hvt : Inv N M τ := by rw [hτ]; exact Inv_o31 hv
  have h031 : τ 31 0 0 = 0 := by rw [hτ, ups_eq]
  refine lv_aload_n hx hb dL_law_492 rfl (lv_at hl 4 rfl) ?_
  refine lv_aload_n hx hb dL_law_493 rfl (lv_at hl 5 rfl) ?_
  refine lv_iload hx hb dL_law_494 (lv_at hl 0 rfl) ?_
  refine k_iconst hC1 dL_law_496 ?_
  refine k_iadd hC1 dL_law_497 ?_
  refine l_sld hK hS (by omega) dL_law_498 ?_
  refine lv_aload_n hx hb dL_law_499 rfl (lv_at hl 5 rfl) ?_
  refine lv_iload hx hb dL_law_500 (lv_at hl 0 rfl) ?_
  refine k_iconst hC1 dL_law_502 ?_
  refine k_iadd hC1 dL_law_503 ?_
  refine l_sld hK hS (by omega) dL_law_504 ?_
  refine lv_aload_n hx hb dL_law_505 rfl (lv_at hl 2 rfl) ?_
  refine l_callW (hh := [(0, 10, 13, 19), (0, 10, 17, 13)]) (As := [.ref (ad1 0 0), .int (zi (sx xs (i + 1))), .int (zi (sx xs (i + 2))), .ref ao]) (rest := []) hX1 hK2 hNc hgo hgD hl.1 (w_start hI1 hWN hfl τ (sx xs (i + 1)) (sx xs (i + 2)) hvt hN hM (sx_rng _ _) (sx_rng _ _) o d9) (vx_cwSW 4 hts gL_law_L_start rfl rfl rfl (by decide +kernel) ⟨Nat.le_of_ble_eq_true rfl, Nat.le_of_ble_eq_true rfl⟩) w1 hO hD hS hcs rfl rfl (Nat.le_of_ble_eq_true rfl) dL_law_506 (fun H1 locs1 w1 hO hD hS hk => ?_)
  replace w2 := la_k2 hA w2 hk
  clear hk
  refine lv_istore (lv' := [(6, .int (zi (cd_start τ (sx xs (i + 1)) (sx xs (i + 2))))), (5, .int (zi i)), (4, .ref aD), (3, .ref ao), (2, .ref (ad2 0 0)), (1, .ref (ad1 0 0)), (0, .ref b)]) hx hb dL_law_509 hl (by decide) rfl (fun ls hl => ?_)
  refine lv_aload_n hx hb dL_law_511 rfl (lv_at hl 4 rfl) ?_
  refine lv_aload_n hx hb dL_law_512 rfl (lv_at hl 6 rfl) ?_
  refine lv_iload hx hb dL_law_513 (lv_at hl 1 rfl) ?_
  refine k_iconst hC1 dL_law_515 ?_
  refine k_iadd hC1 dL_law_516 ?_
  refine l_sld hK hS (by omega) dL_law_517 ?_
  refine lv_aload_n hx hb dL_law_518 rfl (lv_at hl 6 rfl) ?_
  refine lv_iload hx hb dL_law_519 (lv_at hl 1 rfl) ?_
  refine k_iconst hC1 dL_law_521 ?_
  refine k_iadd hC1 dL_law_522 ?_
  refine l_sld hK hS (by omega) dL_law_523 ?_
  refine k_callI (As := [.int (zi (sx xs (i + 1))), .int (zi (sx xs (i + 2)))]) (rest := []) hX2 hl.1 (q_start hI2 σ (sx xs (i + 1)) (sx xs (i + 2)) hτ hv hN hM (sx_rng _ _) (sx_rng _ _)) (cwV 2 hts gL_law_X8_start rfl rfl rfl (by decide +kernel) ⟨Nat.le_of_ble_eq_true rfl, Nat.le_of_ble_eq_true rfl⟩) (rc_M hC2 w2) w2 hS hcs rfl rfl (Nat.le_of_ble_eq_true rfl) dL_law_524 (fun H2 locs2 w2 hS _ hk => ?_)
  replace w1 := la_k1 hA w1 hk
  replace hO := la_o hA hO hk
  replace hD := la_d hA hD hk
  clear hk
  refine lv_istore (lv' := [(7, .int (zi (bi (cd_start τ (sx xs (i + 1)) (sx xs (i + 2))) (fStart τ (sx xs (i + 1)) (sx xs (i + 2)) 8 (sx xs (i + 1)) 0) 0))), (6, .int (zi (cd_start τ (sx xs (i + 1)) (sx xs (i + 2))))), (5, .int (zi i)), (4, .ref aD), (3, .ref ao), (2, .ref (ad2 0 0)), (1, .ref (ad1 0 0)), (0, .ref b)]) hx hb dL_law_527 hl (by decide) rfl (fun ls hl => ?_)
  refine lv_aload_n hx hb dL_law_529 rfl (lv_at hl 5 rfl) ?_
  refine k_callI (As := []) (rest := []) hX2 hl.1 (n_thrown hI2 (stp (cd_start τ (sx xs (i + 1)) (sx xs (i + 2))) (fStart τ (sx xs (i + 1)) (sx xs (i + 2))) τ)) (cwV 0 hts gL_law_X8_thrown rfl rfl rfl (by decide +kernel) ⟨Nat.le_of_ble_eq_true rfl, Nat.le_of_ble_eq_true rfl⟩) (rc_M hC2 w2) w2 hS hcs rfl rfl (Nat.le_of_ble_eq_true rfl) dL_law_530 (fun H3 locs3 w2 hS _ hk => ?_)
  replace w1 := la_k1 hA w1 hk
  replace hO := la_o hA hO hk
  replace hD := la_d hA hD hk
  clear hk
  obtain ⟨hv', h31⟩ := iv_start (sx xs (i + 1)) (sx xs (i + 2)) hvt hM.1 h031 (sx_rng _ _) (sx_rng _ _)
  refine k_top0 h31 ?_
  have hcd := cdr_start τ (sx xs (i + 1)) (sx xs (i + 2))
  refine lv_iload hx hb dL_law_533 (lv_at hl 1 rfl) ?_
  refine k_icmp_eq (tgt := 540) hC1 dL_law_535 (by decide) ⟨⟨by omega, by omega⟩, ⟨by omega, by omega⟩⟩ (fun _ => ?_) (fun z => absurd rfl z)
  refine lv_iload hx hb dL_law_540 (lv_at hl 1 rfl) ?_
  refine k_if_ne (tgt := 557) hC1 dL_law_542 (by decide) ⟨by omega, by omega⟩ (fun z => ?_) (fun z => ?_)
  · refine lv_goto (tgt := 1722) hx hb dL_law_557 (by decide) ?_
    exact kk _ _ _ _ _ _ hv' ⟨w1, w2, hO, hD⟩ hS (lw_sub hl (fun q hq => List.mem_cons_of_mem _ (List.mem_cons_of_mem _ hq)))
  · refine lv_aload_n hx hb dL_law_545 rfl (lv_at hl 4 rfl) ?_
    refine k_iconst hC1 dL_law_546 ?_
    refine l_lald hx hb hK2 hO dL_law_547 ?_
    refine lv_iload hx hb dL_law_548 (lv_at hl 0 rfl) ?_
    refine lv_i2l hx hb dL_law_550 rfl ?_
    refine l_lcmp hx hb (by rw [z, bx_0, bi_0]) dL_law_551 ?_
    refine k_if_eq (tgt := 557) hC1 dL_law_552 (by decide) (by decide) (fun _ => ?_) (fun c9 => absurd rfl c9)
    refine lv_goto (tgt := 1722) hx hb dL_law_557 (by decide) ?_
    exact kk _ _ _ _ _ _ hv' ⟨w1, w2, hO, hD⟩ hS (lw_sub hl (fun q hq => List.mem_cons_of_mem _ (List.mem_cons_of_mem _ hq)))
set_option maxHeartbeats 2000000 in
set_option maxRecDepth 100000 in
theorem lc_stop {p : Program} {l : Launch} {e : Env} {s : State} {m : MethodId} {below : List Frame} {meth : Method} {c : Code} {H : Heap} {locs : List Loc} {cells slots : Nat} {Q : State → Prop} {ls : Array Slot} {Dg : va_G} {cA : Nat → ClassId} {cL cD : ClassId} {ad1 ad2 : Nat → Int → Nat} {oc : Nat → Nat} {ao aD b L : Nat} {xs : Nat → Int32} {o : Int64} {d9 : UInt64} {σ : St} {N M i : Int} (hK : LK p l c s m meth b L xs Dg cA cL cD oc) (hA : LA ad1 ad2 ao aD s.heap.size) (hv : Inv N M σ) (hN : N ≤ 1000000) (hM : 0 ≤ M ∧ M ≤ 1000000) (hi : 0 ≤ i ∧ i + 5 ≤ L) (hcs : cells + 1 ≤ 603072 ∧ slots + 6 ≤ 7211114) (hW : LW Dg cA cL cD ad1 ad2 ao aD σ o d9 H) (hS : va_S (NA s.heap.size) s.heap H locs) (hl : lv_has ls 10 (lvL ad1 ad2 ao aD b i))
    (kk : ∀ (σ' : St) (o' : Int64) (d' : UInt64) (H1 : Heap) (locs1 : List Loc) (ls1 : Array Slot), Inv (N + 1) (M + 300) σ' → LW Dg cA cL cD ad1 ad2 ao aD σ' o' d' H1 → va_S (NA s.heap.size) s.heap H1 locs1 → lv_has ls1 10 (lvL ad1 ad2 ao aD b i) → W p l e room_1 s m #[Value.ref b] below meth c H1 locs1 (cells + 1) (slots + 6) Q (F0 m 1722 ls1 [])) : W p l e room_1 s m #[Value.ref b] below meth c H locs cells slots Q (F0 m 560 ls []) := by
  have hX0 := hK.1
  obtain ⟨hI1, hI2, hWN, -, -, hg1, hg2, hgo, hgD⟩ := id hA
  have hX1 := kx_any hX0 hI1 hg1
  have hX2 := kx_any hX0 hI2 hg2
  have hC1 := hX1.1
  have hC2 := hX2.1
  have hx := hC1.1
  have hb := hC1.2.1
  have hts := hC1.2.2.2.1
  have hK2 := hK.2.1
  have hNc := hK.2.2.1
  have hfl := hK.2.2.2.2.2.1
  have hcs2 : cells ≤ 603072 ∧ slots ≤ 7211114 := by omega
  have hl : lv_has ls 10 [(5, .int (zi i)), (4, .ref aD), (3, .ref ao), (2, .ref (ad2 0 0)), (1, .ref (ad1 0 0)), (0, .ref b)] := hl
  obtain ⟨τ, hτ⟩ : ∃ z, z = ups σ 31 0 0 0 := ⟨_, rfl⟩
  have w1 : WP Dg ccnt ad1 (cE cA ad1 τ) H := by rw [hτ]; exact hW.tau
  obtain ⟨-, w2, hO, hD⟩ := hW
  have hvt : Inv N M τ := by rw [hτ]; exact Inv_o31 hv
  have h031 : τ 31 0 0 = 0 := by rw [hτ, ups_eq]
  refine lv_aload_n hx hb dL_law_560 rfl (lv_at hl 4 rfl) ?_
  refine lv_aload_n hx hb dL_law_561 rfl (lv_at hl 5 rfl) ?_
  refine lv_iload hx hb dL_law_562 (lv_at hl 0 rfl) ?_
  refine k_iconst hC1 dL_law_564 ?_
  refine k_iadd hC1 dL_law_565 ?_
  refine l_sld hK hS (by omega) dL_law_566 ?_
  refine lv_aload_n hx hb dL_law_567 rfl (lv_at hl 2 rfl) ?_
  refine l_callW (hh := [(0, 9, 12, 19), (0, 9, 15, 42)]) (As := [.ref (ad1 0 0), .int (zi (sx xs (i + 1))), .ref ao]) (rest := []) hX1 hK2 hNc hgo hgD hl.1 (w_stop hI1 hWN hfl τ (sx xs (i + 1)) hvt hN hM (sx_rng _ _) o d9) (vx_cwSW 3 hts gL_law_L_stop rfl rfl rfl (by decide +kernel) ⟨Nat.le_of_ble_eq_true rfl, Nat.le_of_ble_eq_true rfl⟩) w1 hO hD hS hcs rfl rfl (Nat.le_of_ble_eq_true rfl) dL_law_568 (fun H1 locs1 w1 hO hD hS hk => ?_)
  replace w2 := la_k2 hA w2 hk
  clear hk
  refine lv_istore (lv' := [(6, .int (zi (cd_stop τ (sx xs (i + 1))))), (5, .int (zi i)), (4, .ref aD), (3, .ref ao), (2, .ref (ad2 0 0)), (1, .ref (ad1 0 0)), (0, .ref b)]) hx hb dL_law_571 hl (by decide) rfl (fun ls hl => ?_)
  refine lv_aload_n hx hb dL_law_573 rfl (lv_at hl 4 rfl) ?_
  refine lv_aload_n hx hb dL_law_574 rfl (lv_at hl 6 rfl) ?_
  refine lv_iload hx hb dL_law_575 (lv_at hl 1 rfl) ?_
  refine k_iconst hC1 dL_law_577 ?_
  refine k_iadd hC1 dL_law_578 ?_
  refine l_sld hK hS (by omega) dL_law_579 ?_
  refine k_callI (As := [.int (zi (sx xs (i + 1)))]) (rest := []) hX2 hl.1 (q_stop hI2 σ (sx xs (i + 1)) hτ hv hN hM (sx_rng _ _)) (cwV 1 hts gL_law_X8_stop rfl rfl rfl (by decide +kernel) ⟨Nat.le_of_ble_eq_true rfl, Nat.le_of_ble_eq_true rfl⟩) (rc_M hC2 w2) w2 hS hcs rfl rfl (Nat.le_of_ble_eq_true rfl) dL_law_580 (fun H2 locs2 w2 hS _ hk => ?_)
  replace w1 := la_k1 hA w1 hk
  replace hO := la_o hA hO hk
  replace hD := la_d hA hD hk
  clear hk
  refine lv_istore (lv' := [(7, .int (zi (bi (cd_stop τ (sx xs (i + 1))) (held τ (sx xs (i + 1))) 0))), (6, .int (zi (cd_stop τ (sx xs (i + 1))))), (5, .int (zi i)), (4, .ref aD), (3, .ref ao), (2, .ref (ad2 0 0)), (1, .ref (ad1 0 0)), (0, .ref b)]) hx hb dL_law_583 hl (by decide) rfl (fun ls hl => ?_)
  refine lv_aload_n hx hb dL_law_585 rfl (lv_at hl 5 rfl) ?_
  refine k_callI (As := []) (rest := []) hX2 hl.1 (n_thrown hI2 (stp (cd_stop τ (sx xs (i + 1))) (fStop τ (sx xs (i + 1))) τ)) (cwV 0 hts gL_law_X8_thrown rfl rfl rfl (by decide +kernel) ⟨Nat.le_of_ble_eq_true rfl, Nat.le_of_ble_eq_true rfl⟩) (rc_M hC2 w2) w2 hS hcs rfl rfl (Nat.le_of_ble_eq_true rfl) dL_law_586 (fun H3 locs3 w2 hS _ hk => ?_)
  replace w1 := la_k1 hA w1 hk
  replace hO := la_o hA hO hk
  replace hD := la_d hA hD hk
  clear hk
  obtain ⟨hv', h31⟩ := iv_stop (sx xs (i + 1)) hvt hM.1 h031 (sx_rng _ _)
  refine k_top0 h31 ?_
  have hcd := cdr_stop τ (sx xs (i + 1))
  refine lv_iload hx hb dL_law_589 (lv_at hl 1 rfl) ?_
  refine k_icmp_eq (tgt := 596) hC1 dL_law_591 (by decide) ⟨⟨by omega, by omega⟩, ⟨by omega, by omega⟩⟩ (fun _ => ?_) (fun z => absurd rfl z)
  refine lv_iload hx hb dL_law_596 (lv_at hl 1 rfl) ?_
  refine k_if_ne (tgt := 613) hC1 dL_law_598 (by decide) ⟨by omega, by omega⟩ (fun z => ?_) (fun z => ?_)
  · refine lv_goto (tgt := 1722) hx hb dL_law_613 (by decide) ?_
    exact kk _ _ _ _ _ _ hv' ⟨w1, w2, hO, hD⟩ hS (lw_sub hl (fun q hq => List.mem_cons_of_mem _ (List.mem_cons_of_mem _ hq)))
  · refine lv_aload_n hx hb dL_law_601 rfl (lv_at hl 4 rfl) ?_
    refine k_iconst hC1 dL_law_602 ?_
    refine l_lald hx hb hK2 hO dL_law_603 ?_
    refine lv_iload hx hb dL_law_604 (lv_at hl 0 rfl) ?_
    refine lv_i2l hx hb dL_law_606 rfl ?_
    refine l_lcmp hx hb (by rw [z, bx_0, bi_0]) dL_law_607 ?_
    refine k_if_eq (tgt := 613) hC1 dL_law_608 (by decide) (by decide) (fun _ => ?_) (fun c9 => absurd rfl c9)
    refine lv_goto (tgt := 1722) hx hb dL_law_613 (by decide) ?_
    exact kk _ _ _ _ _ _ hv' ⟨w1, w2, hO, hD⟩ hS (lw_sub hl (fun q hq => List.mem_cons_of_mem _ (List.mem_cons_of_mem _ hq)))
set_option maxHeartbeats 2000000 in
set_option maxRecDepth 100000 in
theorem lc_freeze {p : Program} {l : Launch} {e : Env} {s : State} {m : MethodId} {below : List Frame} {meth : Method} {c : Code} {H : Heap} {locs : List Loc} {cells slots : Nat} {Q : State → Prop} {ls : Array Slot} {Dg : va_G} {cA : Nat → ClassId} {cL cD : ClassId} {ad1 ad2 : Nat → Int → Nat} {oc : Nat → Nat} {ao aD b L : Nat} {xs : Nat → Int32} {o : Int64} {d9 : UInt64} {σ : St} {N M i : Int} (hK : LK p l c s m meth b L xs Dg cA cL cD oc) (hA : LA ad1 ad2 ao aD s.heap.size) (hv : Inv N M σ) (hN : N ≤ 1000000) (hM : 0 ≤ M ∧ M ≤ 1000000) (hi : 0 ≤ i ∧ i + 5 ≤ L) (hcs : cells + 1 ≤ 603072 ∧ slots + 6 ≤ 7211114) (hW : LW Dg cA cL cD ad1 ad2 ao aD σ o d9 H) (hS : va_S (NA s.heap.size) s.heap H locs) (hl : lv_has ls 10 (lvL ad1 ad2 ao aD b i))
    (kk : ∀ (σ' : St) (o' : Int64) (d' : UInt64) (H1 : Heap) (locs1 : List Loc) (ls1 : Array Slot), Inv (N + 1) (M + 300) σ' → LW Dg cA cL cD ad1 ad2 ao aD σ' o' d' H1 → va_S (NA s.heap.size) s.heap H1 locs1 → lv_has ls1 10 (lvL ad1 ad2 ao aD b i) → W p l e room_1 s m #[Value.ref b] below meth c H1 locs1 (cells + 1) (slots + 6) Q (F0 m 1722 ls1 [])) : W p l e room_1 s m #[Value.ref b] below meth c H locs cells slots Q (F0 m 616 ls []) := by
  have hX0 := hK.1
  obtain ⟨hI1, hI2, hWN, -, -, hg1, hg2, hgo, hgD⟩ := id hA
  have hX1 := kx_any hX0 hI1 hg1
  have hX2 := kx_any hX0 hI2 hg2
  have hC1 := hX1.1
  have hC2 := hX2.1
  have hx := hC1.1
  have hb := hC1.2.1
  have hts := hC1.2.2.2.1
  have hK2 := hK.2.1
  have hNc := hK.2.2.1
  have hfl := hK.2.2.2.2.2.1
  have hcs2 : cells ≤ 603072 ∧ slots ≤ 7211114 := by omega
  have hl : lv_has ls 10 [(5, .int (zi i)), (4, .ref aD), (3, .ref ao), (2, .ref (ad2 0 0)), (1, .ref (ad1 0 0)), (0, .ref b)] := hl
  obtain ⟨τ, hτ⟩ : ∃ z, z = ups σ 31 0 0 0 := ⟨_, rfl⟩
  have w1 : WP Dg ccnt ad1 (cE cA ad1 τ) H := by rw [hτ]; exact hW.tau
  obtain ⟨-, w2, hO, hD⟩ := hW
  have hvt : Inv N M τ := by rw [hτ]; exact Inv_o31 hv
  have h031 : τ 31 0 0 = 0 := by rw [hτ, ups_eq]
  refine lv_aload_n hx hb dL_law_616 rfl (lv_at hl 4 rfl) ?_
  refine lv_aload_n hx hb dL_law_617 rfl (lv_at hl 5 rfl) ?_
  refine lv_iload hx hb dL_law_618 (lv_at hl 0 rfl) ?_
  refine k_iconst hC1 dL_law_620 ?_
  refine k_iadd hC1 dL_law_621 ?_
  refine l_sld hK hS (by omega) dL_law_622 ?_
  refine lv_aload_n hx hb dL_law_623 rfl (lv_at hl 2 rfl) ?_
  refine l_callW (hh := [(0, 16, 19, 19)]) (As := [.ref (ad1 0 0), .int (zi (sx xs (i + 1))), .ref ao]) (rest := []) hX1 hK2 hNc hgo hgD hl.1 (w_freeze hI1 hWN hfl τ (sx xs (i + 1)) hvt hN hM (sx_rng _ _) o d9) (vx_cwSW 3 hts gL_law_L_freeze rfl rfl rfl (by decide +kernel) ⟨Nat.le_of_ble_eq_true rfl, Nat.le_of_ble_eq_true rfl⟩) w1 hO hD hS hcs rfl rfl (Nat.le_of_ble_eq_true rfl) dL_law_624 (fun H1 locs1 w1 hO hD hS hk => ?_)
  replace w2 := la_k2 hA w2 hk
  clear hk
  refine lv_istore (lv' := [(6, .int (zi (cd_freeze τ (sx xs (i + 1))))), (5, .int (zi i)), (4, .ref aD), (3, .ref ao), (2, .ref (ad2 0 0)), (1, .ref (ad1 0 0)), (0, .ref b)]) hx hb dL_law_627 hl (by decide) rfl (fun ls hl => ?_)
  refine lv_aload_n hx hb dL_law_629 rfl (lv_at hl 4 rfl) ?_
  refine lv_aload_n hx hb dL_law_630 rfl (lv_at hl 6 rfl) ?_
  refine lv_iload hx hb dL_law_631 (lv_at hl 1 rfl) ?_
  refine k_iconst hC1 dL_law_633 ?_
  refine k_iadd hC1 dL_law_634 ?_
  refine l_sld hK hS (by omega) dL_law_635 ?_
  refine k_callI (As := [.int (zi (sx xs (i + 1)))]) (rest := []) hX2 hl.1 (q_freeze hI2 σ (sx xs (i + 1)) hτ hv hN hM (sx_rng _ _)) (cwV 1 hts gL_law_X8_freeze rfl rfl rfl (by decide +kernel) ⟨Nat.le_of_ble_eq_true rfl, Nat.le_of_ble_eq_true rfl⟩) (rc_M hC2 w2) w2 hS hcs rfl rfl (Nat.le_of_ble_eq_true rfl) dL_law_636 (fun H2 locs2 w2 hS _ hk => ?_)
  replace w1 := la_k1 hA w1 hk
  replace hO := la_o hA hO hk
  replace hD := la_d hA hD hk
  clear hk
  refine lv_istore (lv' := [(7, .int (zi (bi (cd_freeze τ (sx xs (i + 1))) (if τ 12 (sx xs (i + 1)) 0 = 0 then 1 else 0) 0))), (6, .int (zi (cd_freeze τ (sx xs (i + 1))))), (5, .int (zi i)), (4, .ref aD), (3, .ref ao), (2, .ref (ad2 0 0)), (1, .ref (ad1 0 0)), (0, .ref b)]) hx hb dL_law_639 hl (by decide) rfl (fun ls hl => ?_)
  refine lv_aload_n hx hb dL_law_641 rfl (lv_at hl 5 rfl) ?_
  refine k_callI (As := []) (rest := []) hX2 hl.1 (n_thrown hI2 (stp (cd_freeze τ (sx xs (i + 1))) (ups τ 12 (sx xs (i + 1)) 0 1) τ)) (cwV 0 hts gL_law_X8_thrown rfl rfl rfl (by decide +kernel) ⟨Nat.le_of_ble_eq_true rfl, Nat.le_of_ble_eq_true rfl⟩) (rc_M hC2 w2) w2 hS hcs rfl rfl (Nat.le_of_ble_eq_true rfl) dL_law_642 (fun H3 locs3 w2 hS _ hk => ?_)
  replace w1 := la_k1 hA w1 hk
  replace hO := la_o hA hO hk
  replace hD := la_d hA hD hk
  clear hk
  obtain ⟨hv', h31⟩ := iv_freeze (sx xs (i + 1)) hvt hM.1 h031 (sx_rng _ _)
  refine k_top0 h31 ?_
  have hcd := cdr_freeze τ (sx xs (i + 1))
  refine lv_iload hx hb dL_law_645 (lv_at hl 1 rfl) ?_
  refine k_icmp_eq (tgt := 652) hC1 dL_law_647 (by decide) ⟨⟨by omega, by omega⟩, ⟨by omega, by omega⟩⟩ (fun _ => ?_) (fun z => absurd rfl z)
  refine lv_iload hx hb dL_law_652 (lv_at hl 1 rfl) ?_
  refine k_if_ne (tgt := 676) hC1 dL_law_654 (by decide) ⟨by omega, by omega⟩ (fun z => ?_) (fun z => ?_)
  · refine lv_goto (tgt := 1722) hx hb dL_law_676 (by decide) ?_
    exact kk _ _ _ _ _ _ hv' ⟨w1, w2, hO, hD⟩ hS (lw_sub hl (fun q hq => List.mem_cons_of_mem _ (List.mem_cons_of_mem _ hq)))
  · refine lv_aload_n hx hb dL_law_657 rfl (lv_at hl 4 rfl) ?_
    refine k_iconst hC1 dL_law_658 ?_
    refine l_lald hx hb hK2 hO dL_law_659 ?_
    refine lv_iload hx hb dL_law_660 (lv_at hl 0 rfl) ?_
    by_cases zc : τ 12 (sx xs (i + 1)) 0 = 0
    · refine k_top0 (show (bi (cd_freeze τ (sx xs (i + 1))) (if τ 12 (sx xs (i + 1)) 0 = 0 then 1 else 0) 0) = 1 by rw [z, bi_0, if_pos zc]) ?_
      refine k_if_eq (tgt := 669) hC1 dL_law_662 (by decide) (by decide) (fun c9 => absurd c9 (by decide)) (fun _ => ?_)
      refine lv_lconst (v := 1) hx hb dL_law_665 (by decide) ?_
      refine lv_goto (tgt := 670) hx hb dL_law_666 (by decide) ?_
      refine l_lcmp hx hb (by rw [z, bx_0, if_pos zc]; decide) dL_law_670 ?_
      refine k_if_eq (tgt := 676) hC1 dL_law_671 (by decide) (by decide) (fun _ => ?_) (fun c9 => absurd rfl c9)
      refine lv_goto (tgt := 1722) hx hb dL_law_676 (by decide) ?_
      exact kk _ _ _ _ _ _ hv' ⟨w1, w2, hO, hD⟩ hS (lw_sub hl (fun q hq => List.mem_cons_of_mem _ (List.mem_cons_of_mem _ hq)))
    · refine k_top0 (show (bi (cd_freeze τ (sx xs (i + 1))) (if τ 12 (sx xs (i + 1)) 0 = 0 then 1 else 0) 0) = 0 by rw [z, bi_0, if_neg zc]) ?_
      refine k_if_eq (tgt := 669) hC1 dL_law_662 (by decide) (by decide) (fun _ => ?_) (fun c9 => absurd rfl c9)
      refine lv_lconst (v := 0) hx hb dL_law_669 (by decide) ?_
      refine l_lcmp hx hb (by rw [z, bx_0, if_neg zc]; decide) dL_law_670 ?_
      refine k_if_eq (tgt := 676) hC1 dL_law_671 (by decide) (by decide) (fun _ => ?_) (fun c9 => absurd rfl c9)
      refine lv_goto (tgt := 1722) hx hb dL_law_676 (by decide) ?_
      exact kk _ _ _ _ _ _ hv' ⟨w1, w2, hO, hD⟩ hS (lw_sub hl (fun q hq => List.mem_cons_of_mem _ (List.mem_cons_of_mem _ hq)))
set_option maxHeartbeats 2000000 in
set_option maxRecDepth 100000 in
theorem lc_thaw {p : Program} {l : Launch} {e : Env} {s : State} {m : MethodId} {below : List Frame} {meth : Method} {c : Code} {H : Heap} {locs : List Loc} {cells slots : Nat} {Q : State → Prop} {ls : Array Slot} {Dg : va_G} {cA : Nat → ClassId} {cL cD : ClassId} {ad1 ad2 : Nat → Int → Nat} {oc : Nat → Nat} {ao aD b L : Nat} {xs : Nat → Int32} {o : Int64} {d9 : UInt64} {σ : St} {N M i : Int} (hK : LK p l c s m meth b L xs Dg cA cL cD oc) (hA : LA ad1 ad2 ao aD s.heap.size) (hv : Inv N M σ) (hN : N ≤ 1000000) (hM : 0 ≤ M ∧ M ≤ 1000000) (hi : 0 ≤ i ∧ i + 5 ≤ L) (hcs : cells + 1 ≤ 603072 ∧ slots + 6 ≤ 7211114) (hW : LW Dg cA cL cD ad1 ad2 ao aD σ o d9 H) (hS : va_S (NA s.heap.size) s.heap H locs) (hl : lv_has ls 10 (lvL ad1 ad2 ao aD b i))
    (kk : ∀ (σ' : St) (o' : Int64) (d' : UInt64) (H1 : Heap) (locs1 : List Loc) (ls1 : Array Slot), Inv (N + 1) (M + 300) σ' → LW Dg cA cL cD ad1 ad2 ao aD σ' o' d' H1 → va_S (NA s.heap.size) s.heap H1 locs1 → lv_has ls1 10 (lvL ad1 ad2 ao aD b i) → W p l e room_1 s m #[Value.ref b] below meth c H1 locs1 (cells + 1) (slots + 6) Q (F0 m 1722 ls1 [])) : W p l e room_1 s m #[Value.ref b] below meth c H locs cells slots Q (F0 m 679 ls []) := by
  have hX0 := hK.1
  obtain ⟨hI1, hI2, hWN, -, -, hg1, hg2, hgo, hgD⟩ := id hA
  have hX1 := kx_any hX0 hI1 hg1
  have hX2 := kx_any hX0 hI2 hg2
  have hC1 := hX1.1
  have hC2 := hX2.1
  have hx := hC1.1
  have hb := hC1.2.1
  have hts := hC1.2.2.2.1
  have hK2 := hK.2.1
  have hNc := hK.2.2.1
  have hfl := hK.2.2.2.2.2.1
  have hcs2 : cells ≤ 603072 ∧ slots ≤ 7211114 := by omega
  have hl : lv_has ls 10 [(5, .int (zi i)), (4, .ref aD), (3, .ref ao), (2, .ref (ad2 0 0)), (1, .ref (ad1 0 0)), (0, .ref b)] := hl
  obtain ⟨τ, hτ⟩ : ∃ z, z = ups σ 31 0 0 0 := ⟨_, rfl⟩
  have w1 : WP Dg ccnt ad1 (cE cA ad1 τ) H := by rw [hτ]; exact hW.tau
  obtain ⟨-, w2, hO, hD⟩ := hW
  have hvt : Inv N M τ := by rw [hτ]; exact Inv_o31 hv
  have h031 : τ 31 0 0 = 0 := by rw [hτ, ups_eq]
  refine lv_aload_n hx hb dL_law_679 rfl (lv_at hl 4 rfl) ?_
  refine lv_aload_n hx hb dL_law_680 rfl (lv_at hl 5 rfl) ?_
  refine lv_iload hx hb dL_law_681 (lv_at hl 0 rfl) ?_
  refine k_iconst hC1 dL_law_683 ?_
  refine k_iadd hC1 dL_law_684 ?_
  refine l_sld hK hS (by omega) dL_law_685 ?_
  refine lv_aload_n hx hb dL_law_686 rfl (lv_at hl 2 rfl) ?_
  refine l_callW (hh := [(0, 9, 12, 19)]) (As := [.ref (ad1 0 0), .int (zi (sx xs (i + 1))), .ref ao]) (rest := []) hX1 hK2 hNc hgo hgD hl.1 (w_thaw hI1 hWN hfl τ (sx xs (i + 1)) hvt hN hM (sx_rng _ _) o d9) (vx_cwSW 3 hts gL_law_L_thaw rfl rfl rfl (by decide +kernel) ⟨Nat.le_of_ble_eq_true rfl, Nat.le_of_ble_eq_true rfl⟩) w1 hO hD hS hcs rfl rfl (Nat.le_of_ble_eq_true rfl) dL_law_687 (fun H1 locs1 w1 hO hD hS hk => ?_)
  replace w2 := la_k2 hA w2 hk
  clear hk
  refine lv_istore (lv' := [(6, .int (zi (cd_thaw τ (sx xs (i + 1))))), (5, .int (zi i)), (4, .ref aD), (3, .ref ao), (2, .ref (ad2 0 0)), (1, .ref (ad1 0 0)), (0, .ref b)]) hx hb dL_law_690 hl (by decide) rfl (fun ls hl => ?_)
  refine lv_aload_n hx hb dL_law_692 rfl (lv_at hl 4 rfl) ?_
  refine lv_aload_n hx hb dL_law_693 rfl (lv_at hl 6 rfl) ?_
  refine lv_iload hx hb dL_law_694 (lv_at hl 1 rfl) ?_
  refine k_iconst hC1 dL_law_696 ?_
  refine k_iadd hC1 dL_law_697 ?_
  refine l_sld hK hS (by omega) dL_law_698 ?_
  refine k_callI (As := [.int (zi (sx xs (i + 1)))]) (rest := []) hX2 hl.1 (q_thaw hI2 σ (sx xs (i + 1)) hτ hv hN hM (sx_rng _ _)) (cwV 1 hts gL_law_X8_thaw rfl rfl rfl (by decide +kernel) ⟨Nat.le_of_ble_eq_true rfl, Nat.le_of_ble_eq_true rfl⟩) (rc_M hC2 w2) w2 hS hcs rfl rfl (Nat.le_of_ble_eq_true rfl) dL_law_699 (fun H2 locs2 w2 hS _ hk => ?_)
  replace w1 := la_k1 hA w1 hk
  replace hO := la_o hA hO hk
  replace hD := la_d hA hD hk
  clear hk
  refine lv_istore (lv' := [(7, .int (zi (bi (cd_thaw τ (sx xs (i + 1))) (aThaw τ (sx xs (i + 1))) 0))), (6, .int (zi (cd_thaw τ (sx xs (i + 1))))), (5, .int (zi i)), (4, .ref aD), (3, .ref ao), (2, .ref (ad2 0 0)), (1, .ref (ad1 0 0)), (0, .ref b)]) hx hb dL_law_702 hl (by decide) rfl (fun ls hl => ?_)
  refine lv_aload_n hx hb dL_law_704 rfl (lv_at hl 5 rfl) ?_
  refine k_callI (As := []) (rest := []) hX2 hl.1 (n_thrown hI2 (stp (cd_thaw τ (sx xs (i + 1))) (fThaw τ (sx xs (i + 1))) τ)) (cwV 0 hts gL_law_X8_thrown rfl rfl rfl (by decide +kernel) ⟨Nat.le_of_ble_eq_true rfl, Nat.le_of_ble_eq_true rfl⟩) (rc_M hC2 w2) w2 hS hcs rfl rfl (Nat.le_of_ble_eq_true rfl) dL_law_705 (fun H3 locs3 w2 hS _ hk => ?_)
  replace w1 := la_k1 hA w1 hk
  replace hO := la_o hA hO hk
  replace hD := la_d hA hD hk
  clear hk
  obtain ⟨hv', h31⟩ := iv_thaw (sx xs (i + 1)) hvt hM.1 h031 (sx_rng _ _)
  refine k_top0 h31 ?_
  have hcd := cdr_thaw τ (sx xs (i + 1))
  refine lv_iload hx hb dL_law_708 (lv_at hl 1 rfl) ?_
  refine k_icmp_eq (tgt := 715) hC1 dL_law_710 (by decide) ⟨⟨by omega, by omega⟩, ⟨by omega, by omega⟩⟩ (fun _ => ?_) (fun z => absurd rfl z)
  refine lv_iload hx hb dL_law_715 (lv_at hl 1 rfl) ?_
  refine k_if_ne (tgt := 732) hC1 dL_law_717 (by decide) ⟨by omega, by omega⟩ (fun z => ?_) (fun z => ?_)
  · refine lv_goto (tgt := 1722) hx hb dL_law_732 (by decide) ?_
    exact kk _ _ _ _ _ _ hv' ⟨w1, w2, hO, hD⟩ hS (lw_sub hl (fun q hq => List.mem_cons_of_mem _ (List.mem_cons_of_mem _ hq)))
  · refine lv_aload_n hx hb dL_law_720 rfl (lv_at hl 4 rfl) ?_
    refine k_iconst hC1 dL_law_721 ?_
    refine l_lald hx hb hK2 hO dL_law_722 ?_
    refine lv_iload hx hb dL_law_723 (lv_at hl 0 rfl) ?_
    refine lv_i2l hx hb dL_law_725 rfl ?_
    refine l_lcmp hx hb (by rw [z, bx_0, bi_0]) dL_law_726 ?_
    refine k_if_eq (tgt := 732) hC1 dL_law_727 (by decide) (by decide) (fun _ => ?_) (fun c9 => absurd rfl c9)
    refine lv_goto (tgt := 1722) hx hb dL_law_732 (by decide) ?_
    exact kk _ _ _ _ _ _ hv' ⟨w1, w2, hO, hD⟩ hS (lw_sub hl (fun q hq => List.mem_cons_of_mem _ (List.mem_cons_of_mem _ hq)))
set_option maxHeartbeats 2000000 in
set_option maxRecDepth 100000 in
theorem lc_state {p : Program} {l : Launch} {e : Env} {s : State} {m : MethodId} {below : List Frame} {meth : Method} {c : Code} {H : Heap} {locs : List Loc} {cells slots : Nat} {Q : State → Prop} {ls : Array Slot} {Dg : va_G} {cA : Nat → ClassId} {cL cD : ClassId} {ad1 ad2 : Nat → Int → Nat} {oc : Nat → Nat} {ao aD b L : Nat} {xs : Nat → Int32} {o : Int64} {d9 : UInt64} {σ : St} {N M i : Int} (hK : LK p l c s m meth b L xs Dg cA cL cD oc) (hA : LA ad1 ad2 ao aD s.heap.size) (hv : Inv N M σ) (hN : N ≤ 1000000) (hM : 0 ≤ M ∧ M ≤ 1000000) (hi : 0 ≤ i ∧ i + 5 ≤ L) (hcs : cells + 1 ≤ 603072 ∧ slots + 6 ≤ 7211114) (hW : LW Dg cA cL cD ad1 ad2 ao aD σ o d9 H) (hS : va_S (NA s.heap.size) s.heap H locs) (hl : lv_has ls 10 (lvL ad1 ad2 ao aD b i))
    (kk : ∀ (σ' : St) (o' : Int64) (d' : UInt64) (H1 : Heap) (locs1 : List Loc) (ls1 : Array Slot), Inv (N + 1) (M + 300) σ' → LW Dg cA cL cD ad1 ad2 ao aD σ' o' d' H1 → va_S (NA s.heap.size) s.heap H1 locs1 → lv_has ls1 10 (lvL ad1 ad2 ao aD b i) → W p l e room_1 s m #[Value.ref b] below meth c H1 locs1 (cells + 1) (slots + 6) Q (F0 m 1722 ls1 [])) : W p l e room_1 s m #[Value.ref b] below meth c H locs cells slots Q (F0 m 735 ls []) := by
  have hX0 := hK.1
  obtain ⟨hI1, hI2, hWN, -, -, hg1, hg2, hgo, hgD⟩ := id hA
  have hX1 := kx_any hX0 hI1 hg1
  have hX2 := kx_any hX0 hI2 hg2
  have hC1 := hX1.1
  have hC2 := hX2.1
  have hx := hC1.1
  have hb := hC1.2.1
  have hts := hC1.2.2.2.1
  have hK2 := hK.2.1
  have hNc := hK.2.2.1
  have hfl := hK.2.2.2.2.2.1
  have hcs2 : cells ≤ 603072 ∧ slots ≤ 7211114 := by omega
  have hl : lv_has ls 10 [(5, .int (zi i)), (4, .ref aD), (3, .ref ao), (2, .ref (ad2 0 0)), (1, .ref (ad1 0 0)), (0, .ref b)] := hl
  obtain ⟨τ, hτ⟩ : ∃ z, z = ups σ 31 0 0 0 := ⟨_, rfl⟩
  have w1 : WP Dg ccnt ad1 (cE cA ad1 τ) H := by rw [hτ]; exact hW.tau
  obtain ⟨-, w2, hO, hD⟩ := hW
  have hvt : Inv N M τ := by rw [hτ]; exact Inv_o31 hv
  have h031 : τ 31 0 0 = 0 := by rw [hτ, ups_eq]
  refine lv_aload_n hx hb dL_law_735 rfl (lv_at hl 4 rfl) ?_
  refine lv_aload_n hx hb dL_law_736 rfl (lv_at hl 5 rfl) ?_
  refine lv_iload hx hb dL_law_737 (lv_at hl 0 rfl) ?_
  refine k_iconst hC1 dL_law_739 ?_
  refine k_iadd hC1 dL_law_740 ?_
  refine l_sld hK hS (by omega) dL_law_741 ?_
  refine lv_aload_n hx hb dL_law_742 rfl (lv_at hl 2 rfl) ?_
  refine l_callW (hh := [(0, 9, 12, 19)]) (As := [.ref (ad1 0 0), .int (zi (sx xs (i + 1))), .ref ao]) (rest := []) hX1 hK2 hNc hgo hgD hl.1 (w_state hI1 hWN hfl τ (sx xs (i + 1)) hvt hN hM (sx_rng _ _) o d9) (vx_cwSW 3 hts gL_law_L_state rfl rfl rfl (by decide +kernel) ⟨Nat.le_of_ble_eq_true rfl, Nat.le_of_ble_eq_true rfl⟩) w1 hO hD hS hcs rfl rfl (Nat.le_of_ble_eq_true rfl) dL_law_743 (fun H1 locs1 w1 hO hD hS hk => ?_)
  replace w2 := la_k2 hA w2 hk
  clear hk
  refine lv_istore (lv' := [(6, .int (zi (cd_state τ (sx xs (i + 1))))), (5, .int (zi i)), (4, .ref aD), (3, .ref ao), (2, .ref (ad2 0 0)), (1, .ref (ad1 0 0)), (0, .ref b)]) hx hb dL_law_746 hl (by decide) rfl (fun ls hl => ?_)
  refine lv_aload_n hx hb dL_law_748 rfl (lv_at hl 4 rfl) ?_
  refine lv_aload_n hx hb dL_law_749 rfl (lv_at hl 6 rfl) ?_
  refine lv_iload hx hb dL_law_750 (lv_at hl 1 rfl) ?_
  refine k_iconst hC1 dL_law_752 ?_
  refine k_iadd hC1 dL_law_753 ?_
  refine l_sld hK hS (by omega) dL_law_754 ?_
  refine k_callI (As := [.int (zi (sx xs (i + 1)))]) (rest := []) hX2 hl.1 (q_state hI2 σ (sx xs (i + 1)) hτ hv hN hM (sx_rng _ _)) (cwV 1 hts gL_law_X8_state rfl rfl rfl (by decide +kernel) ⟨Nat.le_of_ble_eq_true rfl, Nat.le_of_ble_eq_true rfl⟩) (rc_M hC2 w2) w2 hS hcs rfl rfl (Nat.le_of_ble_eq_true rfl) dL_law_755 (fun H2 locs2 w2 hS _ hk => ?_)
  replace w1 := la_k1 hA w1 hk
  replace hO := la_o hA hO hk
  replace hD := la_d hA hD hk
  clear hk
  refine lv_istore (lv' := [(7, .int (zi (bi (cd_state τ (sx xs (i + 1))) (if τ 13 (sx xs (i + 1)) 0 ≠ 0 then 111 else if τ 12 (sx xs (i + 1)) 0 ≠ 0 then 102 else 112) 45))), (6, .int (zi (cd_state τ (sx xs (i + 1))))), (5, .int (zi i)), (4, .ref aD), (3, .ref ao), (2, .ref (ad2 0 0)), (1, .ref (ad1 0 0)), (0, .ref b)]) hx hb dL_law_758 hl (by decide) rfl (fun ls hl => ?_)
  refine lv_aload_n hx hb dL_law_760 rfl (lv_at hl 5 rfl) ?_
  refine k_callI (As := []) (rest := []) hX2 hl.1 (n_thrown hI2 (stp (cd_state τ (sx xs (i + 1))) τ τ)) (cwV 0 hts gL_law_X8_thrown rfl rfl rfl (by decide +kernel) ⟨Nat.le_of_ble_eq_true rfl, Nat.le_of_ble_eq_true rfl⟩) (rc_M hC2 w2) w2 hS hcs rfl rfl (Nat.le_of_ble_eq_true rfl) dL_law_761 (fun H3 locs3 w2 hS _ hk => ?_)
  replace w1 := la_k1 hA w1 hk
  replace hO := la_o hA hO hk
  replace hD := la_d hA hD hk
  clear hk
  obtain ⟨hv', h31⟩ := iv_state (sx xs (i + 1)) hvt hM.1 h031 (sx_rng _ _)
  refine k_top0 h31 ?_
  have hcd := cdr_state τ (sx xs (i + 1))
  refine lv_iload hx hb dL_law_764 (lv_at hl 1 rfl) ?_
  refine k_icmp_eq (tgt := 771) hC1 dL_law_766 (by decide) ⟨⟨by omega, by omega⟩, ⟨by omega, by omega⟩⟩ (fun _ => ?_) (fun z => absurd rfl z)
  refine lv_iload hx hb dL_law_771 (lv_at hl 1 rfl) ?_
  refine k_if_ne (tgt := 788) hC1 dL_law_773 (by decide) ⟨by omega, by omega⟩ (fun z => ?_) (fun z => ?_)
  · refine lv_goto (tgt := 1722) hx hb dL_law_788 (by decide) ?_
    exact kk _ _ _ _ _ _ hv' ⟨w1, w2, hO, hD⟩ hS (lw_sub hl (fun q hq => List.mem_cons_of_mem _ (List.mem_cons_of_mem _ hq)))
  · refine lv_aload_n hx hb dL_law_776 rfl (lv_at hl 4 rfl) ?_
    refine k_iconst hC1 dL_law_777 ?_
    refine l_lald hx hb hK2 hO dL_law_778 ?_
    refine lv_iload hx hb dL_law_779 (lv_at hl 0 rfl) ?_
    refine lv_i2l hx hb dL_law_781 rfl ?_
    refine l_lcmp hx hb (by rw [z, bx_0, bi_0]) dL_law_782 ?_
    refine k_if_eq (tgt := 788) hC1 dL_law_783 (by decide) (by decide) (fun _ => ?_) (fun c9 => absurd rfl c9)
    refine lv_goto (tgt := 1722) hx hb dL_law_788 (by decide) ?_
    exact kk _ _ _ _ _ _ hv' ⟨w1, w2, hO, hD⟩ hS (lw_sub hl (fun q hq => List.mem_cons_of_mem _ (List.mem_cons_of_mem _ hq)))
set_option maxHeartbeats 2000000 in
set_option maxRecDepth 100000 in
theorem lc_plays {p : Program} {l : Launch} {e : Env} {s : State} {m : MethodId} {below : List Frame} {meth : Method} {c : Code} {H : Heap} {locs : List Loc} {cells slots : Nat} {Q : State → Prop} {ls : Array Slot} {Dg : va_G} {cA : Nat → ClassId} {cL cD : ClassId} {ad1 ad2 : Nat → Int → Nat} {oc : Nat → Nat} {ao aD b L : Nat} {xs : Nat → Int32} {o : Int64} {d9 : UInt64} {σ : St} {N M i : Int} (hK : LK p l c s m meth b L xs Dg cA cL cD oc) (hA : LA ad1 ad2 ao aD s.heap.size) (hv : Inv N M σ) (hN : N ≤ 1000000) (hM : 0 ≤ M ∧ M ≤ 1000000) (hi : 0 ≤ i ∧ i + 5 ≤ L) (hcs : cells + 1 ≤ 603072 ∧ slots + 6 ≤ 7211114) (hW : LW Dg cA cL cD ad1 ad2 ao aD σ o d9 H) (hS : va_S (NA s.heap.size) s.heap H locs) (hl : lv_has ls 10 (lvL ad1 ad2 ao aD b i))
    (kk : ∀ (σ' : St) (o' : Int64) (d' : UInt64) (H1 : Heap) (locs1 : List Loc) (ls1 : Array Slot), Inv (N + 1) (M + 300) σ' → LW Dg cA cL cD ad1 ad2 ao aD σ' o' d' H1 → va_S (NA s.heap.size) s.heap H1 locs1 → lv_has ls1 10 (lvL ad1 ad2 ao aD b i) → W p l e room_1 s m #[Value.ref b] below meth c H1 locs1 (cells + 1) (slots + 6) Q (F0 m 1722 ls1 [])) : W p l e room_1 s m #[Value.ref b] below meth c H locs cells slots Q (F0 m 791 ls []) := by
  have hX0 := hK.1
  obtain ⟨hI1, hI2, hWN, -, -, hg1, hg2, hgo, hgD⟩ := id hA
  have hX1 := kx_any hX0 hI1 hg1
  have hX2 := kx_any hX0 hI2 hg2
  have hC1 := hX1.1
  have hC2 := hX2.1
  have hx := hC1.1
  have hb := hC1.2.1
  have hts := hC1.2.2.2.1
  have hK2 := hK.2.1
  have hNc := hK.2.2.1
  have hfl := hK.2.2.2.2.2.1
  have hcs2 : cells ≤ 603072 ∧ slots ≤ 7211114 := by omega
  have hl : lv_has ls 10 [(5, .int (zi i)), (4, .ref aD), (3, .ref ao), (2, .ref (ad2 0 0)), (1, .ref (ad1 0 0)), (0, .ref b)] := hl
  obtain ⟨τ, hτ⟩ : ∃ z, z = ups σ 31 0 0 0 := ⟨_, rfl⟩
  have w1 : WP Dg ccnt ad1 (cE cA ad1 τ) H := by rw [hτ]; exact hW.tau
  obtain ⟨-, w2, hO, hD⟩ := hW
  have hvt : Inv N M τ := by rw [hτ]; exact Inv_o31 hv
  have h031 : τ 31 0 0 = 0 := by rw [hτ, ups_eq]
  refine lv_aload_n hx hb dL_law_791 rfl (lv_at hl 4 rfl) ?_
  refine lv_aload_n hx hb dL_law_792 rfl (lv_at hl 5 rfl) ?_
  refine lv_iload hx hb dL_law_793 (lv_at hl 0 rfl) ?_
  refine k_iconst hC1 dL_law_795 ?_
  refine k_iadd hC1 dL_law_796 ?_
  refine l_sld hK hS (by omega) dL_law_797 ?_
  refine lv_aload_n hx hb dL_law_798 rfl (lv_at hl 2 rfl) ?_
  refine l_callW (hh := [(0, 9, 12, 19), (0, 9, 15, 42)]) (As := [.ref (ad1 0 0), .int (zi (sx xs (i + 1))), .ref ao]) (rest := []) hX1 hK2 hNc hgo hgD hl.1 (w_plays hI1 hWN hfl τ (sx xs (i + 1)) hvt hN hM (sx_rng _ _) o d9) (vx_cwSW 3 hts gL_law_L_plays rfl rfl rfl (by decide +kernel) ⟨Nat.le_of_ble_eq_true rfl, Nat.le_of_ble_eq_true rfl⟩) w1 hO hD hS hcs rfl rfl (Nat.le_of_ble_eq_true rfl) dL_law_799 (fun H1 locs1 w1 hO hD hS hk => ?_)
  replace w2 := la_k2 hA w2 hk
  clear hk
  refine lv_istore (lv' := [(6, .int (zi (cd_plays τ (sx xs (i + 1))))), (5, .int (zi i)), (4, .ref aD), (3, .ref ao), (2, .ref (ad2 0 0)), (1, .ref (ad1 0 0)), (0, .ref b)]) hx hb dL_law_802 hl (by decide) rfl (fun ls hl => ?_)
  refine lv_aload_n hx hb dL_law_804 rfl (lv_at hl 4 rfl) ?_
  refine lv_aload_n hx hb dL_law_805 rfl (lv_at hl 6 rfl) ?_
  refine lv_iload hx hb dL_law_806 (lv_at hl 1 rfl) ?_
  refine k_iconst hC1 dL_law_808 ?_
  refine k_iadd hC1 dL_law_809 ?_
  refine l_sld hK hS (by omega) dL_law_810 ?_
  refine k_callI (As := [.int (zi (sx xs (i + 1)))]) (rest := []) hX2 hl.1 (q_plays hI2 σ (sx xs (i + 1)) hτ hv hN hM (sx_rng _ _)) (cwV 1 hts gL_law_X8_plays rfl rfl rfl (by decide +kernel) ⟨Nat.le_of_ble_eq_true rfl, Nat.le_of_ble_eq_true rfl⟩) (rc_M hC2 w2) w2 hS hcs rfl rfl (Nat.le_of_ble_eq_true rfl) dL_law_811 (fun H2 locs2 w2 hS _ hk => ?_)
  replace w1 := la_k1 hA w1 hk
  replace hO := la_o hA hO hk
  replace hD := la_d hA hD hk
  clear hk
  refine lv_istore (lv' := [(7, .int (zi (bi (cd_plays τ (sx xs (i + 1))) (τ 8 (sx xs (i + 1)) 0) 0))), (6, .int (zi (cd_plays τ (sx xs (i + 1))))), (5, .int (zi i)), (4, .ref aD), (3, .ref ao), (2, .ref (ad2 0 0)), (1, .ref (ad1 0 0)), (0, .ref b)]) hx hb dL_law_814 hl (by decide) rfl (fun ls hl => ?_)
  refine lv_aload_n hx hb dL_law_816 rfl (lv_at hl 5 rfl) ?_
  refine k_callI (As := []) (rest := []) hX2 hl.1 (n_thrown hI2 (stp (cd_plays τ (sx xs (i + 1))) τ τ)) (cwV 0 hts gL_law_X8_thrown rfl rfl rfl (by decide +kernel) ⟨Nat.le_of_ble_eq_true rfl, Nat.le_of_ble_eq_true rfl⟩) (rc_M hC2 w2) w2 hS hcs rfl rfl (Nat.le_of_ble_eq_true rfl) dL_law_817 (fun H3 locs3 w2 hS _ hk => ?_)
  replace w1 := la_k1 hA w1 hk
  replace hO := la_o hA hO hk
  replace hD := la_d hA hD hk
  clear hk
  obtain ⟨hv', h31⟩ := iv_plays (sx xs (i + 1)) hvt hM.1 h031 (sx_rng _ _)
  refine k_top0 h31 ?_
  have hcd := cdr_plays τ (sx xs (i + 1))
  refine lv_iload hx hb dL_law_820 (lv_at hl 1 rfl) ?_
  refine k_icmp_eq (tgt := 827) hC1 dL_law_822 (by decide) ⟨⟨by omega, by omega⟩, ⟨by omega, by omega⟩⟩ (fun _ => ?_) (fun z => absurd rfl z)
  refine lv_iload hx hb dL_law_827 (lv_at hl 1 rfl) ?_
  refine k_if_ne (tgt := 844) hC1 dL_law_829 (by decide) ⟨by omega, by omega⟩ (fun z => ?_) (fun z => ?_)
  · refine lv_goto (tgt := 1722) hx hb dL_law_844 (by decide) ?_
    exact kk _ _ _ _ _ _ hv' ⟨w1, w2, hO, hD⟩ hS (lw_sub hl (fun q hq => List.mem_cons_of_mem _ (List.mem_cons_of_mem _ hq)))
  · refine lv_aload_n hx hb dL_law_832 rfl (lv_at hl 4 rfl) ?_
    refine k_iconst hC1 dL_law_833 ?_
    refine l_lald hx hb hK2 hO dL_law_834 ?_
    refine lv_iload hx hb dL_law_835 (lv_at hl 0 rfl) ?_
    refine lv_i2l hx hb dL_law_837 rfl ?_
    refine l_lcmp hx hb (by rw [z, bx_0, bi_0]) dL_law_838 ?_
    refine k_if_eq (tgt := 844) hC1 dL_law_839 (by decide) (by decide) (fun _ => ?_) (fun c9 => absurd rfl c9)
    refine lv_goto (tgt := 1722) hx hb dL_law_844 (by decide) ?_
    exact kk _ _ _ _ _ _ hv' ⟨w1, w2, hO, hD⟩ hS (lw_sub hl (fun q hq => List.mem_cons_of_mem _ (List.mem_cons_of_mem _ hq)))
set_option maxHeartbeats 2000000 in
set_option maxRecDepth 100000 in
theorem lc_playerAt {p : Program} {l : Launch} {e : Env} {s : State} {m : MethodId} {below : List Frame} {meth : Method} {c : Code} {H : Heap} {locs : List Loc} {cells slots : Nat} {Q : State → Prop} {ls : Array Slot} {Dg : va_G} {cA : Nat → ClassId} {cL cD : ClassId} {ad1 ad2 : Nat → Int → Nat} {oc : Nat → Nat} {ao aD b L : Nat} {xs : Nat → Int32} {o : Int64} {d9 : UInt64} {σ : St} {N M i : Int} (hK : LK p l c s m meth b L xs Dg cA cL cD oc) (hA : LA ad1 ad2 ao aD s.heap.size) (hv : Inv N M σ) (hN : N ≤ 1000000) (hM : 0 ≤ M ∧ M ≤ 1000000) (hi : 0 ≤ i ∧ i + 5 ≤ L) (hcs : cells + 1 ≤ 603072 ∧ slots + 6 ≤ 7211114) (hW : LW Dg cA cL cD ad1 ad2 ao aD σ o d9 H) (hS : va_S (NA s.heap.size) s.heap H locs) (hl : lv_has ls 10 (lvL ad1 ad2 ao aD b i))
    (kk : ∀ (σ' : St) (o' : Int64) (d' : UInt64) (H1 : Heap) (locs1 : List Loc) (ls1 : Array Slot), Inv (N + 1) (M + 300) σ' → LW Dg cA cL cD ad1 ad2 ao aD σ' o' d' H1 → va_S (NA s.heap.size) s.heap H1 locs1 → lv_has ls1 10 (lvL ad1 ad2 ao aD b i) → W p l e room_1 s m #[Value.ref b] below meth c H1 locs1 (cells + 1) (slots + 6) Q (F0 m 1722 ls1 [])) : W p l e room_1 s m #[Value.ref b] below meth c H locs cells slots Q (F0 m 847 ls []) := by
  have hX0 := hK.1
  obtain ⟨hI1, hI2, hWN, -, -, hg1, hg2, hgo, hgD⟩ := id hA
  have hX1 := kx_any hX0 hI1 hg1
  have hX2 := kx_any hX0 hI2 hg2
  have hC1 := hX1.1
  have hC2 := hX2.1
  have hx := hC1.1
  have hb := hC1.2.1
  have hts := hC1.2.2.2.1
  have hK2 := hK.2.1
  have hNc := hK.2.2.1
  have hfl := hK.2.2.2.2.2.1
  have hcs2 : cells ≤ 603072 ∧ slots ≤ 7211114 := by omega
  have hl : lv_has ls 10 [(5, .int (zi i)), (4, .ref aD), (3, .ref ao), (2, .ref (ad2 0 0)), (1, .ref (ad1 0 0)), (0, .ref b)] := hl
  obtain ⟨τ, hτ⟩ : ∃ z, z = ups σ 31 0 0 0 := ⟨_, rfl⟩
  have w1 : WP Dg ccnt ad1 (cE cA ad1 τ) H := by rw [hτ]; exact hW.tau
  obtain ⟨-, w2, hO, hD⟩ := hW
  have hvt : Inv N M τ := by rw [hτ]; exact Inv_o31 hv
  have h031 : τ 31 0 0 = 0 := by rw [hτ, ups_eq]
  refine lv_aload_n hx hb dL_law_847 rfl (lv_at hl 4 rfl) ?_
  refine lv_aload_n hx hb dL_law_848 rfl (lv_at hl 5 rfl) ?_
  refine lv_iload hx hb dL_law_849 (lv_at hl 0 rfl) ?_
  refine k_iconst hC1 dL_law_851 ?_
  refine k_iadd hC1 dL_law_852 ?_
  refine l_sld hK hS (by omega) dL_law_853 ?_
  refine lv_aload_n hx hb dL_law_854 rfl (lv_at hl 5 rfl) ?_
  refine lv_iload hx hb dL_law_855 (lv_at hl 0 rfl) ?_
  refine k_iconst hC1 dL_law_857 ?_
  refine k_iadd hC1 dL_law_858 ?_
  refine l_sld hK hS (by omega) dL_law_859 ?_
  refine lv_aload_n hx hb dL_law_860 rfl (lv_at hl 2 rfl) ?_
  refine l_callW (hh := [(0, 10, 13, 19), (0, 10, 17, 42)]) (As := [.ref (ad1 0 0), .int (zi (sx xs (i + 1))), .int (zi (sx xs (i + 2))), .ref ao]) (rest := []) hX1 hK2 hNc hgo hgD hl.1 (w_playerAt hI1 hWN hfl τ (sx xs (i + 1)) (sx xs (i + 2)) hvt hN hM (sx_rng _ _) (sx_rng _ _) o d9) (vx_cwSW 4 hts gL_law_L_playerAt rfl rfl rfl (by decide +kernel) ⟨Nat.le_of_ble_eq_true rfl, Nat.le_of_ble_eq_true rfl⟩) w1 hO hD hS hcs rfl rfl (Nat.le_of_ble_eq_true rfl) dL_law_861 (fun H1 locs1 w1 hO hD hS hk => ?_)
  replace w2 := la_k2 hA w2 hk
  clear hk
  refine lv_istore (lv' := [(6, .int (zi (cd_playerAt τ (sx xs (i + 1)) (sx xs (i + 2))))), (5, .int (zi i)), (4, .ref aD), (3, .ref ao), (2, .ref (ad2 0 0)), (1, .ref (ad1 0 0)), (0, .ref b)]) hx hb dL_law_864 hl (by decide) rfl (fun ls hl => ?_)
  refine lv_aload_n hx hb dL_law_866 rfl (lv_at hl 4 rfl) ?_
  refine lv_aload_n hx hb dL_law_867 rfl (lv_at hl 6 rfl) ?_
  refine lv_iload hx hb dL_law_868 (lv_at hl 1 rfl) ?_
  refine k_iconst hC1 dL_law_870 ?_
  refine k_iadd hC1 dL_law_871 ?_
  refine l_sld hK hS (by omega) dL_law_872 ?_
  refine lv_aload_n hx hb dL_law_873 rfl (lv_at hl 6 rfl) ?_
  refine lv_iload hx hb dL_law_874 (lv_at hl 1 rfl) ?_
  refine k_iconst hC1 dL_law_876 ?_
  refine k_iadd hC1 dL_law_877 ?_
  refine l_sld hK hS (by omega) dL_law_878 ?_
  refine k_callI (As := [.int (zi (sx xs (i + 1))), .int (zi (sx xs (i + 2)))]) (rest := []) hX2 hl.1 (q_playerAt hI2 σ (sx xs (i + 1)) (sx xs (i + 2)) hτ hv hN hM (sx_rng _ _) (sx_rng _ _)) (cwV 2 hts gL_law_X8_playerAt rfl rfl rfl (by decide +kernel) ⟨Nat.le_of_ble_eq_true rfl, Nat.le_of_ble_eq_true rfl⟩) (rc_M hC2 w2) w2 hS hcs rfl rfl (Nat.le_of_ble_eq_true rfl) dL_law_879 (fun H2 locs2 w2 hS _ hk => ?_)
  replace w1 := la_k1 hA w1 hk
  replace hO := la_o hA hO hk
  replace hD := la_d hA hD hk
  clear hk
  refine lv_istore (lv' := [(7, .int (zi (bi (cd_playerAt τ (sx xs (i + 1)) (sx xs (i + 2))) (τ 16 (sx xs (i + 1)) (sx xs (i + 2))) 0))), (6, .int (zi (cd_playerAt τ (sx xs (i + 1)) (sx xs (i + 2))))), (5, .int (zi i)), (4, .ref aD), (3, .ref ao), (2, .ref (ad2 0 0)), (1, .ref (ad1 0 0)), (0, .ref b)]) hx hb dL_law_882 hl (by decide) rfl (fun ls hl => ?_)
  refine lv_aload_n hx hb dL_law_884 rfl (lv_at hl 5 rfl) ?_
  refine k_callI (As := []) (rest := []) hX2 hl.1 (n_thrown hI2 (stp (cd_playerAt τ (sx xs (i + 1)) (sx xs (i + 2))) τ τ)) (cwV 0 hts gL_law_X8_thrown rfl rfl rfl (by decide +kernel) ⟨Nat.le_of_ble_eq_true rfl, Nat.le_of_ble_eq_true rfl⟩) (rc_M hC2 w2) w2 hS hcs rfl rfl (Nat.le_of_ble_eq_true rfl) dL_law_885 (fun H3 locs3 w2 hS _ hk => ?_)
  replace w1 := la_k1 hA w1 hk
  replace hO := la_o hA hO hk
  replace hD := la_d hA hD hk
  clear hk
  obtain ⟨hv', h31⟩ := iv_playerAt (sx xs (i + 1)) (sx xs (i + 2)) hvt hM.1 h031 (sx_rng _ _) (sx_rng _ _)
  refine k_top0 h31 ?_
  have hcd := cdr_playerAt τ (sx xs (i + 1)) (sx xs (i + 2))
  refine lv_iload hx hb dL_law_888 (lv_at hl 1 rfl) ?_
  refine k_icmp_eq (tgt := 895) hC1 dL_law_890 (by decide) ⟨⟨by omega, by omega⟩, ⟨by omega, by omega⟩⟩ (fun _ => ?_) (fun z => absurd rfl z)
  refine lv_iload hx hb dL_law_895 (lv_at hl 1 rfl) ?_
  refine k_if_ne (tgt := 912) hC1 dL_law_897 (by decide) ⟨by omega, by omega⟩ (fun z => ?_) (fun z => ?_)
  · refine lv_goto (tgt := 1722) hx hb dL_law_912 (by decide) ?_
    exact kk _ _ _ _ _ _ hv' ⟨w1, w2, hO, hD⟩ hS (lw_sub hl (fun q hq => List.mem_cons_of_mem _ (List.mem_cons_of_mem _ hq)))
  · refine lv_aload_n hx hb dL_law_900 rfl (lv_at hl 4 rfl) ?_
    refine k_iconst hC1 dL_law_901 ?_
    refine l_lald hx hb hK2 hO dL_law_902 ?_
    refine lv_iload hx hb dL_law_903 (lv_at hl 0 rfl) ?_
    refine lv_i2l hx hb dL_law_905 rfl ?_
    refine l_lcmp hx hb (by rw [z, bx_0, bi_0]) dL_law_906 ?_
    refine k_if_eq (tgt := 912) hC1 dL_law_907 (by decide) (by decide) (fun _ => ?_) (fun c9 => absurd rfl c9)
    refine lv_goto (tgt := 1722) hx hb dL_law_912 (by decide) ?_
    exact kk _ _ _ _ _ _ hv' ⟨w1, w2, hO, hD⟩ hS (lw_sub hl (fun q hq => List.mem_cons_of_mem _ (List.mem_cons_of_mem _ hq)))
set_option maxHeartbeats 2000000 in
set_option maxRecDepth 100000 in
theorem lc_next {p : Program} {l : Launch} {e : Env} {s : State} {m : MethodId} {below : List Frame} {meth : Method} {c : Code} {H : Heap} {locs : List Loc} {cells slots : Nat} {Q : State → Prop} {ls : Array Slot} {Dg : va_G} {cA : Nat → ClassId} {cL cD : ClassId} {ad1 ad2 : Nat → Int → Nat} {oc : Nat → Nat} {ao aD b L : Nat} {xs : Nat → Int32} {o : Int64} {d9 : UInt64} {σ : St} {N M i : Int} (hK : LK p l c s m meth b L xs Dg cA cL cD oc) (hA : LA ad1 ad2 ao aD s.heap.size) (hv : Inv N M σ) (hN : N ≤ 1000000) (hM : 0 ≤ M ∧ M ≤ 1000000) (hi : 0 ≤ i ∧ i + 5 ≤ L) (hcs : cells + 1 ≤ 603072 ∧ slots + 6 ≤ 7211114) (hW : LW Dg cA cL cD ad1 ad2 ao aD σ o d9 H) (hS : va_S (NA s.heap.size) s.heap H locs) (hl : lv_has ls 10 (lvL ad1 ad2 ao aD b i))
    (kk : ∀ (σ' : St) (o' : Int64) (d' : UInt64) (H1 : Heap) (locs1 : List Loc) (ls1 : Array Slot), Inv (N + 1) (M + 300) σ' → LW Dg cA cL cD ad1 ad2 ao aD σ' o' d' H1 → va_S (NA s.heap.size) s.heap H1 locs1 → lv_has ls1 10 (lvL ad1 ad2 ao aD b i) → W p l e room_1 s m #[Value.ref b] below meth c H1 locs1 (cells + 1) (slots + 6) Q (F0 m 1722 ls1 [])) : W p l e room_1 s m #[Value.ref b] below meth c H locs cells slots Q (F0 m 915 ls []) := by
  have hX0 := hK.1
  obtain ⟨hI1, hI2, hWN, -, -, hg1, hg2, hgo, hgD⟩ := id hA
  have hX1 := kx_any hX0 hI1 hg1
  have hX2 := kx_any hX0 hI2 hg2
  have hC1 := hX1.1
  have hC2 := hX2.1
  have hx := hC1.1
  have hb := hC1.2.1
  have hts := hC1.2.2.2.1
  have hK2 := hK.2.1
  have hNc := hK.2.2.1
  have hfl := hK.2.2.2.2.2.1
  have hcs2 : cells ≤ 603072 ∧ slots ≤ 7211114 := by omega
  have hl : lv_has ls 10 [(5, .int (zi i)), (4, .ref aD), (3, .ref ao), (2, .ref (ad2 0 0)), (1, .ref (ad1 0 0)), (0, .ref b)] := hl
  obtain ⟨τ, hτ⟩ : ∃ z, z = ups σ 31 0 0 0 := ⟨_, rfl⟩
  have w1 : WP Dg ccnt ad1 (cE cA ad1 τ) H := by rw [hτ]; exact hW.tau
  obtain ⟨-, w2, hO, hD⟩ := hW
  have hvt : Inv N M τ := by rw [hτ]; exact Inv_o31 hv
  have h031 : τ 31 0 0 = 0 := by rw [hτ, ups_eq]
  refine lv_aload_n hx hb dL_law_915 rfl (lv_at hl 4 rfl) ?_
  refine lv_aload_n hx hb dL_law_916 rfl (lv_at hl 5 rfl) ?_
  refine lv_iload hx hb dL_law_917 (lv_at hl 0 rfl) ?_
  refine k_iconst hC1 dL_law_919 ?_
  refine k_iadd hC1 dL_law_920 ?_
  refine l_sld hK hS (by omega) dL_law_921 ?_
  refine lv_aload_n hx hb dL_law_922 rfl (lv_at hl 2 rfl) ?_
  refine l_callW (hh := [(0, 9, 12, 19), (0, 9, 15, 42)]) (As := [.ref (ad1 0 0), .int (zi (sx xs (i + 1))), .ref ao]) (rest := []) hX1 hK2 hNc hgo hgD hl.1 (w_next hI1 hWN hfl τ (sx xs (i + 1)) hvt hN hM (sx_rng _ _) o d9) (vx_cwSW 3 hts gL_law_L_next rfl rfl rfl (by decide +kernel) ⟨Nat.le_of_ble_eq_true rfl, Nat.le_of_ble_eq_true rfl⟩) w1 hO hD hS hcs rfl rfl (Nat.le_of_ble_eq_true rfl) dL_law_923 (fun H1 locs1 w1 hO hD hS hk => ?_)
  replace w2 := la_k2 hA w2 hk
  clear hk
  refine lv_istore (lv' := [(6, .int (zi (cd_next τ (sx xs (i + 1))))), (5, .int (zi i)), (4, .ref aD), (3, .ref ao), (2, .ref (ad2 0 0)), (1, .ref (ad1 0 0)), (0, .ref b)]) hx hb dL_law_926 hl (by decide) rfl (fun ls hl => ?_)
  refine lv_aload_n hx hb dL_law_928 rfl (lv_at hl 4 rfl) ?_
  refine lv_aload_n hx hb dL_law_929 rfl (lv_at hl 6 rfl) ?_
  refine lv_iload hx hb dL_law_930 (lv_at hl 1 rfl) ?_
  refine k_iconst hC1 dL_law_932 ?_
  refine k_iadd hC1 dL_law_933 ?_
  refine l_sld hK hS (by omega) dL_law_934 ?_
  refine k_callI (As := [.int (zi (sx xs (i + 1)))]) (rest := []) hX2 hl.1 (q_next hI2 σ (sx xs (i + 1)) hτ hv hN hM (sx_rng _ _)) (cwV 1 hts gL_law_X8_next rfl rfl rfl (by decide +kernel) ⟨Nat.le_of_ble_eq_true rfl, Nat.le_of_ble_eq_true rfl⟩) (rc_M hC2 w2) w2 hS hcs rfl rfl (Nat.le_of_ble_eq_true rfl) dL_law_935 (fun H2 locs2 w2 hS _ hk => ?_)
  replace w1 := la_k1 hA w1 hk
  replace hO := la_o hA hO hk
  replace hD := la_d hA hD hk
  clear hk
  refine lv_istore (lv' := [(7, .int (zi (bi (cd_next τ (sx xs (i + 1))) (100 * τ 5 (sx xs (i + 1)) 0 + τ 4 (sx xs (i + 1)) (τ 5 (sx xs (i + 1)) 0 - 1)) 0))), (6, .int (zi (cd_next τ (sx xs (i + 1))))), (5, .int (zi i)), (4, .ref aD), (3, .ref ao), (2, .ref (ad2 0 0)), (1, .ref (ad1 0 0)), (0, .ref b)]) hx hb dL_law_938 hl (by decide) rfl (fun ls hl => ?_)
  refine lv_aload_n hx hb dL_law_940 rfl (lv_at hl 5 rfl) ?_
  refine k_callI (As := []) (rest := []) hX2 hl.1 (n_thrown hI2 (stp (cd_next τ (sx xs (i + 1))) τ τ)) (cwV 0 hts gL_law_X8_thrown rfl rfl rfl (by decide +kernel) ⟨Nat.le_of_ble_eq_true rfl, Nat.le_of_ble_eq_true rfl⟩) (rc_M hC2 w2) w2 hS hcs rfl rfl (Nat.le_of_ble_eq_true rfl) dL_law_941 (fun H3 locs3 w2 hS _ hk => ?_)
  replace w1 := la_k1 hA w1 hk
  replace hO := la_o hA hO hk
  replace hD := la_d hA hD hk
  clear hk
  obtain ⟨hv', h31⟩ := iv_next (sx xs (i + 1)) hvt hM.1 h031 (sx_rng _ _)
  refine k_top0 h31 ?_
  have hcd := cdr_next τ (sx xs (i + 1))
  refine lv_iload hx hb dL_law_944 (lv_at hl 1 rfl) ?_
  refine k_icmp_eq (tgt := 951) hC1 dL_law_946 (by decide) ⟨⟨by omega, by omega⟩, ⟨by omega, by omega⟩⟩ (fun _ => ?_) (fun z => absurd rfl z)
  refine lv_iload hx hb dL_law_951 (lv_at hl 1 rfl) ?_
  refine k_if_ne (tgt := 968) hC1 dL_law_953 (by decide) ⟨by omega, by omega⟩ (fun z => ?_) (fun z => ?_)
  · refine lv_goto (tgt := 1722) hx hb dL_law_968 (by decide) ?_
    exact kk _ _ _ _ _ _ hv' ⟨w1, w2, hO, hD⟩ hS (lw_sub hl (fun q hq => List.mem_cons_of_mem _ (List.mem_cons_of_mem _ hq)))
  · refine lv_aload_n hx hb dL_law_956 rfl (lv_at hl 4 rfl) ?_
    refine k_iconst hC1 dL_law_957 ?_
    refine l_lald hx hb hK2 hO dL_law_958 ?_
    refine lv_iload hx hb dL_law_959 (lv_at hl 0 rfl) ?_
    refine lv_i2l hx hb dL_law_961 rfl ?_
    refine l_lcmp hx hb (by rw [z, bx_0, bi_0]) dL_law_962 ?_
    refine k_if_eq (tgt := 968) hC1 dL_law_963 (by decide) (by decide) (fun _ => ?_) (fun c9 => absurd rfl c9)
    refine lv_goto (tgt := 1722) hx hb dL_law_968 (by decide) ?_
    exact kk _ _ _ _ _ _ hv' ⟨w1, w2, hO, hD⟩ hS (lw_sub hl (fun q hq => List.mem_cons_of_mem _ (List.mem_cons_of_mem _ hq)))
set_option maxHeartbeats 2000000 in
set_option maxRecDepth 100000 in
theorem lc_count {p : Program} {l : Launch} {e : Env} {s : State} {m : MethodId} {below : List Frame} {meth : Method} {c : Code} {H : Heap} {locs : List Loc} {cells slots : Nat} {Q : State → Prop} {ls : Array Slot} {Dg : va_G} {cA : Nat → ClassId} {cL cD : ClassId} {ad1 ad2 : Nat → Int → Nat} {oc : Nat → Nat} {ao aD b L : Nat} {xs : Nat → Int32} {o : Int64} {d9 : UInt64} {σ : St} {N M i : Int} (hK : LK p l c s m meth b L xs Dg cA cL cD oc) (hA : LA ad1 ad2 ao aD s.heap.size) (hv : Inv N M σ) (hN : N ≤ 1000000) (hM : 0 ≤ M ∧ M ≤ 1000000) (hi : 0 ≤ i ∧ i + 5 ≤ L) (hcs : cells + 1 ≤ 603072 ∧ slots + 6 ≤ 7211114) (hW : LW Dg cA cL cD ad1 ad2 ao aD σ o d9 H) (hS : va_S (NA s.heap.size) s.heap H locs) (hl : lv_has ls 10 (lvL ad1 ad2 ao aD b i))
    (kk : ∀ (σ' : St) (o' : Int64) (d' : UInt64) (H1 : Heap) (locs1 : List Loc) (ls1 : Array Slot), Inv (N + 1) (M + 300) σ' → LW Dg cA cL cD ad1 ad2 ao aD σ' o' d' H1 → va_S (NA s.heap.size) s.heap H1 locs1 → lv_has ls1 10 (lvL ad1 ad2 ao aD b i) → W p l e room_1 s m #[Value.ref b] below meth c H1 locs1 (cells + 1) (slots + 6) Q (F0 m 1722 ls1 [])) : W p l e room_1 s m #[Value.ref b] below meth c H locs cells slots Q (F0 m 971 ls []) := by
  have hX0 := hK.1
  obtain ⟨hI1, hI2, hWN, -, -, hg1, hg2, hgo, hgD⟩ := id hA
  have hX1 := kx_any hX0 hI1 hg1
  have hX2 := kx_any hX0 hI2 hg2
  have hC1 := hX1.1
  have hC2 := hX2.1
  have hx := hC1.1
  have hb := hC1.2.1
  have hts := hC1.2.2.2.1
  have hK2 := hK.2.1
  have hNc := hK.2.2.1
  have hfl := hK.2.2.2.2.2.1
  have hcs2 : cells ≤ 603072 ∧ slots ≤ 7211114 := by omega
  have hl : lv_has ls 10 [(5, .int (zi i)), (4, .ref aD), (3, .ref ao), (2, .ref (ad2 0 0)), (1, .ref (ad1 0 0)), (0, .ref b)] := hl
  obtain ⟨τ, hτ⟩ : ∃ z, z = ups σ 31 0 0 0 := ⟨_, rfl⟩
  have w1 : WP Dg ccnt ad1 (cE cA ad1 τ) H := by rw [hτ]; exact hW.tau
  obtain ⟨-, w2, hO, hD⟩ := hW
  have hvt : Inv N M τ := by rw [hτ]; exact Inv_o31 hv
  have h031 : τ 31 0 0 = 0 := by rw [hτ, ups_eq]
  refine lv_aload_n hx hb dL_law_971 rfl (lv_at hl 4 rfl) ?_
  refine lv_aload_n hx hb dL_law_972 rfl (lv_at hl 5 rfl) ?_
  refine lv_iload hx hb dL_law_973 (lv_at hl 0 rfl) ?_
  refine k_iconst hC1 dL_law_975 ?_
  refine k_iadd hC1 dL_law_976 ?_
  refine l_sld hK hS (by omega) dL_law_977 ?_
  refine lv_aload_n hx hb dL_law_978 rfl (lv_at hl 2 rfl) ?_
  refine l_callW (hh := [(0, 9, 12, 19), (0, 9, 15, 42)]) (As := [.ref (ad1 0 0), .int (zi (sx xs (i + 1))), .ref ao]) (rest := []) hX1 hK2 hNc hgo hgD hl.1 (w_count hI1 hWN hfl τ (sx xs (i + 1)) hvt hN hM (sx_rng _ _) o d9) (vx_cwSW 3 hts gL_law_L_count rfl rfl rfl (by decide +kernel) ⟨Nat.le_of_ble_eq_true rfl, Nat.le_of_ble_eq_true rfl⟩) w1 hO hD hS hcs rfl rfl (Nat.le_of_ble_eq_true rfl) dL_law_979 (fun H1 locs1 w1 hO hD hS hk => ?_)
  replace w2 := la_k2 hA w2 hk
  clear hk
  refine lv_istore (lv' := [(6, .int (zi (cd_count τ (sx xs (i + 1))))), (5, .int (zi i)), (4, .ref aD), (3, .ref ao), (2, .ref (ad2 0 0)), (1, .ref (ad1 0 0)), (0, .ref b)]) hx hb dL_law_982 hl (by decide) rfl (fun ls hl => ?_)
  refine lv_aload_n hx hb dL_law_984 rfl (lv_at hl 4 rfl) ?_
  refine lv_aload_n hx hb dL_law_985 rfl (lv_at hl 6 rfl) ?_
  refine lv_iload hx hb dL_law_986 (lv_at hl 1 rfl) ?_
  refine k_iconst hC1 dL_law_988 ?_
  refine k_iadd hC1 dL_law_989 ?_
  refine l_sld hK hS (by omega) dL_law_990 ?_
  refine k_callI (As := [.int (zi (sx xs (i + 1)))]) (rest := []) hX2 hl.1 (q_count hI2 σ (sx xs (i + 1)) hτ hv hN hM (sx_rng _ _)) (cwV 1 hts gL_law_X8_count rfl rfl rfl (by decide +kernel) ⟨Nat.le_of_ble_eq_true rfl, Nat.le_of_ble_eq_true rfl⟩) (rc_M hC2 w2) w2 hS hcs rfl rfl (Nat.le_of_ble_eq_true rfl) dL_law_991 (fun H2 locs2 w2 hS _ hk => ?_)
  replace w1 := la_k1 hA w1 hk
  replace hO := la_o hA hO hk
  replace hD := la_d hA hD hk
  clear hk
  refine lv_istore (lv' := [(7, .int (zi (bi (cd_count τ (sx xs (i + 1))) (τ 9 (sx xs (i + 1)) 0) 0))), (6, .int (zi (cd_count τ (sx xs (i + 1))))), (5, .int (zi i)), (4, .ref aD), (3, .ref ao), (2, .ref (ad2 0 0)), (1, .ref (ad1 0 0)), (0, .ref b)]) hx hb dL_law_994 hl (by decide) rfl (fun ls hl => ?_)
  refine lv_aload_n hx hb dL_law_996 rfl (lv_at hl 5 rfl) ?_
  refine k_callI (As := []) (rest := []) hX2 hl.1 (n_thrown hI2 (stp (cd_count τ (sx xs (i + 1))) τ τ)) (cwV 0 hts gL_law_X8_thrown rfl rfl rfl (by decide +kernel) ⟨Nat.le_of_ble_eq_true rfl, Nat.le_of_ble_eq_true rfl⟩) (rc_M hC2 w2) w2 hS hcs rfl rfl (Nat.le_of_ble_eq_true rfl) dL_law_997 (fun H3 locs3 w2 hS _ hk => ?_)
  replace w1 := la_k1 hA w1 hk
  replace hO := la_o hA hO hk
  replace hD := la_d hA hD hk
  clear hk
  obtain ⟨hv', h31⟩ := iv_count (sx xs (i + 1)) hvt hM.1 h031 (sx_rng _ _)
  refine k_top0 h31 ?_
  have hcd := cdr_count τ (sx xs (i + 1))
  refine lv_iload hx hb dL_law_1000 (lv_at hl 1 rfl) ?_
  refine k_icmp_eq (tgt := 1007) hC1 dL_law_1002 (by decide) ⟨⟨by omega, by omega⟩, ⟨by omega, by omega⟩⟩ (fun _ => ?_) (fun z => absurd rfl z)
  refine lv_iload hx hb dL_law_1007 (lv_at hl 1 rfl) ?_
  refine k_if_ne (tgt := 1024) hC1 dL_law_1009 (by decide) ⟨by omega, by omega⟩ (fun z => ?_) (fun z => ?_)
  · refine lv_goto (tgt := 1722) hx hb dL_law_1024 (by decide) ?_
    exact kk _ _ _ _ _ _ hv' ⟨w1, w2, hO, hD⟩ hS (lw_sub hl (fun q hq => List.mem_cons_of_mem _ (List.mem_cons_of_mem _ hq)))
  · refine lv_aload_n hx hb dL_law_1012 rfl (lv_at hl 4 rfl) ?_
    refine k_iconst hC1 dL_law_1013 ?_
    refine l_lald hx hb hK2 hO dL_law_1014 ?_
    refine lv_iload hx hb dL_law_1015 (lv_at hl 0 rfl) ?_
    refine lv_i2l hx hb dL_law_1017 rfl ?_
    refine l_lcmp hx hb (by rw [z, bx_0, bi_0]) dL_law_1018 ?_
    refine k_if_eq (tgt := 1024) hC1 dL_law_1019 (by decide) (by decide) (fun _ => ?_) (fun c9 => absurd rfl c9)
    refine lv_goto (tgt := 1722) hx hb dL_law_1024 (by decide) ?_
    exact kk _ _ _ _ _ _ hv' ⟨w1, w2, hO, hD⟩ hS (lw_sub hl (fun q hq => List.mem_cons_of_mem _ (List.mem_cons_of_mem _ hq)))
set_option maxHeartbeats 2000000 in
set_option maxRecDepth 100000 in
theorem lc_waits {p : Program} {l : Launch} {e : Env} {s : State} {m : MethodId} {below : List Frame} {meth : Method} {c : Code} {H : Heap} {locs : List Loc} {cells slots : Nat} {Q : State → Prop} {ls : Array Slot} {Dg : va_G} {cA : Nat → ClassId} {cL cD : ClassId} {ad1 ad2 : Nat → Int → Nat} {oc : Nat → Nat} {ao aD b L : Nat} {xs : Nat → Int32} {o : Int64} {d9 : UInt64} {σ : St} {N M i : Int} (hK : LK p l c s m meth b L xs Dg cA cL cD oc) (hA : LA ad1 ad2 ao aD s.heap.size) (hv : Inv N M σ) (hN : N ≤ 1000000) (hM : 0 ≤ M ∧ M ≤ 1000000) (hi : 0 ≤ i ∧ i + 5 ≤ L) (hcs : cells + 1 ≤ 603072 ∧ slots + 6 ≤ 7211114) (hW : LW Dg cA cL cD ad1 ad2 ao aD σ o d9 H) (hS : va_S (NA s.heap.size) s.heap H locs) (hl : lv_has ls 10 (lvL ad1 ad2 ao aD b i))
    (kk : ∀ (σ' : St) (o' : Int64) (d' : UInt64) (H1 : Heap) (locs1 : List Loc) (ls1 : Array Slot), Inv (N + 1) (M + 300) σ' → LW Dg cA cL cD ad1 ad2 ao aD σ' o' d' H1 → va_S (NA s.heap.size) s.heap H1 locs1 → lv_has ls1 10 (lvL ad1 ad2 ao aD b i) → W p l e room_1 s m #[Value.ref b] below meth c H1 locs1 (cells + 1) (slots + 6) Q (F0 m 1722 ls1 [])) : W p l e room_1 s m #[Value.ref b] below meth c H locs cells slots Q (F0 m 1027 ls []) := by
  have hX0 := hK.1
  obtain ⟨hI1, hI2, hWN, -, -, hg1, hg2, hgo, hgD⟩ := id hA
  have hX1 := kx_any hX0 hI1 hg1
  have hX2 := kx_any hX0 hI2 hg2
  have hC1 := hX1.1
  have hC2 := hX2.1
  have hx := hC1.1
  have hb := hC1.2.1
  have hts := hC1.2.2.2.1
  have hK2 := hK.2.1
  have hNc := hK.2.2.1
  have hfl := hK.2.2.2.2.2.1
  have hcs2 : cells ≤ 603072 ∧ slots ≤ 7211114 := by omega
  have hl : lv_has ls 10 [(5, .int (zi i)), (4, .ref aD), (3, .ref ao), (2, .ref (ad2 0 0)), (1, .ref (ad1 0 0)), (0, .ref b)] := hl
  obtain ⟨τ, hτ⟩ : ∃ z, z = ups σ 31 0 0 0 := ⟨_, rfl⟩
  have w1 : WP Dg ccnt ad1 (cE cA ad1 τ) H := by rw [hτ]; exact hW.tau
  obtain ⟨-, w2, hO, hD⟩ := hW
  have hvt : Inv N M τ := by rw [hτ]; exact Inv_o31 hv
  have h031 : τ 31 0 0 = 0 := by rw [hτ, ups_eq]
  refine lv_aload_n hx hb dL_law_1027 rfl (lv_at hl 4 rfl) ?_
  refine lv_aload_n hx hb dL_law_1028 rfl (lv_at hl 5 rfl) ?_
  refine lv_iload hx hb dL_law_1029 (lv_at hl 0 rfl) ?_
  refine k_iconst hC1 dL_law_1031 ?_
  refine k_iadd hC1 dL_law_1032 ?_
  refine l_sld hK hS (by omega) dL_law_1033 ?_
  refine lv_aload_n hx hb dL_law_1034 rfl (lv_at hl 2 rfl) ?_
  refine l_callW (hh := [(0, 9, 12, 19), (0, 9, 15, 42)]) (As := [.ref (ad1 0 0), .int (zi (sx xs (i + 1))), .ref ao]) (rest := []) hX1 hK2 hNc hgo hgD hl.1 (w_waits hI1 hWN hfl τ (sx xs (i + 1)) hvt hN hM (sx_rng _ _) o d9) (vx_cwSW 3 hts gL_law_L_waits rfl rfl rfl (by decide +kernel) ⟨Nat.le_of_ble_eq_true rfl, Nat.le_of_ble_eq_true rfl⟩) w1 hO hD hS hcs rfl rfl (Nat.le_of_ble_eq_true rfl) dL_law_1035 (fun H1 locs1 w1 hO hD hS hk => ?_)
  replace w2 := la_k2 hA w2 hk
  clear hk
  refine lv_istore (lv' := [(6, .int (zi (cd_waits τ (sx xs (i + 1))))), (5, .int (zi i)), (4, .ref aD), (3, .ref ao), (2, .ref (ad2 0 0)), (1, .ref (ad1 0 0)), (0, .ref b)]) hx hb dL_law_1038 hl (by decide) rfl (fun ls hl => ?_)
  refine lv_aload_n hx hb dL_law_1040 rfl (lv_at hl 4 rfl) ?_
  refine lv_aload_n hx hb dL_law_1041 rfl (lv_at hl 6 rfl) ?_
  refine lv_iload hx hb dL_law_1042 (lv_at hl 1 rfl) ?_
  refine k_iconst hC1 dL_law_1044 ?_
  refine k_iadd hC1 dL_law_1045 ?_
  refine l_sld hK hS (by omega) dL_law_1046 ?_
  refine k_callI (As := [.int (zi (sx xs (i + 1)))]) (rest := []) hX2 hl.1 (q_waits hI2 σ (sx xs (i + 1)) hτ hv hN hM (sx_rng _ _)) (cwV 1 hts gL_law_X8_waits rfl rfl rfl (by decide +kernel) ⟨Nat.le_of_ble_eq_true rfl, Nat.le_of_ble_eq_true rfl⟩) (rc_M hC2 w2) w2 hS hcs rfl rfl (Nat.le_of_ble_eq_true rfl) dL_law_1047 (fun H2 locs2 w2 hS _ hk => ?_)
  replace w1 := la_k1 hA w1 hk
  replace hO := la_o hA hO hk
  replace hD := la_d hA hD hk
  clear hk
  refine lv_istore (lv' := [(7, .int (zi (bi (cd_waits τ (sx xs (i + 1))) (if τ 11 (sx xs (i + 1)) 0 ≠ -1 then 100 else τ 10 (sx xs (i + 1)) 0) 0))), (6, .int (zi (cd_waits τ (sx xs (i + 1))))), (5, .int (zi i)), (4, .ref aD), (3, .ref ao), (2, .ref (ad2 0 0)), (1, .ref (ad1 0 0)), (0, .ref b)]) hx hb dL_law_1050 hl (by decide) rfl (fun ls hl => ?_)
  refine lv_aload_n hx hb dL_law_1052 rfl (lv_at hl 5 rfl) ?_
  refine k_callI (As := []) (rest := []) hX2 hl.1 (n_thrown hI2 (stp (cd_waits τ (sx xs (i + 1))) τ τ)) (cwV 0 hts gL_law_X8_thrown rfl rfl rfl (by decide +kernel) ⟨Nat.le_of_ble_eq_true rfl, Nat.le_of_ble_eq_true rfl⟩) (rc_M hC2 w2) w2 hS hcs rfl rfl (Nat.le_of_ble_eq_true rfl) dL_law_1053 (fun H3 locs3 w2 hS _ hk => ?_)
  replace w1 := la_k1 hA w1 hk
  replace hO := la_o hA hO hk
  replace hD := la_d hA hD hk
  clear hk
  obtain ⟨hv', h31⟩ := iv_waits (sx xs (i + 1)) hvt hM.1 h031 (sx_rng _ _)
  refine k_top0 h31 ?_
  have hcd := cdr_waits τ (sx xs (i + 1))
  refine lv_iload hx hb dL_law_1056 (lv_at hl 1 rfl) ?_
  refine k_icmp_eq (tgt := 1063) hC1 dL_law_1058 (by decide) ⟨⟨by omega, by omega⟩, ⟨by omega, by omega⟩⟩ (fun _ => ?_) (fun z => absurd rfl z)
  refine lv_iload hx hb dL_law_1063 (lv_at hl 1 rfl) ?_
  refine k_if_ne (tgt := 1080) hC1 dL_law_1065 (by decide) ⟨by omega, by omega⟩ (fun z => ?_) (fun z => ?_)
  · refine lv_goto (tgt := 1722) hx hb dL_law_1080 (by decide) ?_
    exact kk _ _ _ _ _ _ hv' ⟨w1, w2, hO, hD⟩ hS (lw_sub hl (fun q hq => List.mem_cons_of_mem _ (List.mem_cons_of_mem _ hq)))
  · refine lv_aload_n hx hb dL_law_1068 rfl (lv_at hl 4 rfl) ?_
    refine k_iconst hC1 dL_law_1069 ?_
    refine l_lald hx hb hK2 hO dL_law_1070 ?_
    refine lv_iload hx hb dL_law_1071 (lv_at hl 0 rfl) ?_
    refine lv_i2l hx hb dL_law_1073 rfl ?_
    refine l_lcmp hx hb (by rw [z, bx_0, bi_0]) dL_law_1074 ?_
    refine k_if_eq (tgt := 1080) hC1 dL_law_1075 (by decide) (by decide) (fun _ => ?_) (fun c9 => absurd rfl c9)
    refine lv_goto (tgt := 1722) hx hb dL_law_1080 (by decide) ?_
    exact kk _ _ _ _ _ _ hv' ⟨w1, w2, hO, hD⟩ hS (lw_sub hl (fun q hq => List.mem_cons_of_mem _ (List.mem_cons_of_mem _ hq)))
set_option maxHeartbeats 2000000 in
set_option maxRecDepth 100000 in
theorem lc_tick {p : Program} {l : Launch} {e : Env} {s : State} {m : MethodId} {below : List Frame} {meth : Method} {c : Code} {H : Heap} {locs : List Loc} {cells slots : Nat} {Q : State → Prop} {ls : Array Slot} {Dg : va_G} {cA : Nat → ClassId} {cL cD : ClassId} {ad1 ad2 : Nat → Int → Nat} {oc : Nat → Nat} {ao aD b L : Nat} {xs : Nat → Int32} {o : Int64} {d9 : UInt64} {σ : St} {N M i : Int} (hK : LK p l c s m meth b L xs Dg cA cL cD oc) (hA : LA ad1 ad2 ao aD s.heap.size) (hv : Inv N M σ) (hN : N ≤ 1000000) (hM : 0 ≤ M ∧ M ≤ 1000000) (hi : 0 ≤ i ∧ i + 5 ≤ L) (hcs : cells + 1 ≤ 603072 ∧ slots + 6 ≤ 7211114) (hW : LW Dg cA cL cD ad1 ad2 ao aD σ o d9 H) (hS : va_S (NA s.heap.size) s.heap H locs) (hl : lv_has ls 10 (lvL ad1 ad2 ao aD b i))
    (kk : ∀ (σ' : St) (o' : Int64) (d' : UInt64) (H1 : Heap) (locs1 : List Loc) (ls1 : Array Slot), Inv (N + 1) (M + 300) σ' → LW Dg cA cL cD ad1 ad2 ao aD σ' o' d' H1 → va_S (NA s.heap.size) s.heap H1 locs1 → lv_has ls1 10 (lvL ad1 ad2 ao aD b i) → W p l e room_1 s m #[Value.ref b] below meth c H1 locs1 (cells + 1) (slots + 6) Q (F0 m 1722 ls1 [])) : W p l e room_1 s m #[Value.ref b] below meth c H locs cells slots Q (F0 m 1083 ls []) := by
  have hX0 := hK.1
  obtain ⟨hI1, hI2, hWN, -, -, hg1, hg2, hgo, hgD⟩ := id hA
  have hX1 := kx_any hX0 hI1 hg1
  have hX2 := kx_any hX0 hI2 hg2
  have hC1 := hX1.1
  have hC2 := hX2.1
  have hx := hC1.1
  have hb := hC1.2.1
  have hts := hC1.2.2.2.1
  have hK2 := hK.2.1
  have hNc := hK.2.2.1
  have hfl := hK.2.2.2.2.2.1
  have hcs2 : cells ≤ 603072 ∧ slots ≤ 7211114 := by omega
  have hl : lv_has ls 10 [(5, .int (zi i)), (4, .ref aD), (3, .ref ao), (2, .ref (ad2 0 0)), (1, .ref (ad1 0 0)), (0, .ref b)] := hl
  obtain ⟨τ, hτ⟩ : ∃ z, z = ups σ 31 0 0 0 := ⟨_, rfl⟩
  have w1 : WP Dg ccnt ad1 (cE cA ad1 τ) H := by rw [hτ]; exact hW.tau
  obtain ⟨-, w2, hO, hD⟩ := hW
  have hvt : Inv N M τ := by rw [hτ]; exact Inv_o31 hv
  have h031 : τ 31 0 0 = 0 := by rw [hτ, ups_eq]
  refine lv_aload_n hx hb dL_law_1083 rfl (lv_at hl 4 rfl) ?_
  refine lv_aload_n hx hb dL_law_1084 rfl (lv_at hl 5 rfl) ?_
  refine lv_iload hx hb dL_law_1085 (lv_at hl 0 rfl) ?_
  refine k_iconst hC1 dL_law_1087 ?_
  refine k_iadd hC1 dL_law_1088 ?_
  refine l_sld hK hS (by omega) dL_law_1089 ?_
  refine lv_aload_n hx hb dL_law_1090 rfl (lv_at hl 2 rfl) ?_
  refine l_callW (hh := [(0, 9, 12, 21)]) (As := [.ref (ad1 0 0), .int (zi (sx xs (i + 1))), .ref ao]) (rest := []) hX1 hK2 hNc hgo hgD hl.1 (w_tick hI1 hWN hfl τ (sx xs (i + 1)) hvt hN hM (sx_rng _ _) o d9) (vx_cwSW 3 hts gL_law_L_tick rfl rfl rfl (by decide +kernel) ⟨Nat.le_of_ble_eq_true rfl, Nat.le_of_ble_eq_true rfl⟩) w1 hO hD hS hcs rfl rfl (Nat.le_of_ble_eq_true rfl) dL_law_1091 (fun H1 locs1 w1 hO hD hS hk => ?_)
  replace w2 := la_k2 hA w2 hk
  clear hk
  refine lv_istore (lv' := [(6, .int (zi (cd_tick τ (sx xs (i + 1))))), (5, .int (zi i)), (4, .ref aD), (3, .ref ao), (2, .ref (ad2 0 0)), (1, .ref (ad1 0 0)), (0, .ref b)]) hx hb dL_law_1094 hl (by decide) rfl (fun ls hl => ?_)
  refine lv_aload_n hx hb dL_law_1096 rfl (lv_at hl 4 rfl) ?_
  refine lv_aload_n hx hb dL_law_1097 rfl (lv_at hl 6 rfl) ?_
  refine lv_iload hx hb dL_law_1098 (lv_at hl 1 rfl) ?_
  refine k_iconst hC1 dL_law_1100 ?_
  refine k_iadd hC1 dL_law_1101 ?_
  refine l_sld hK hS (by omega) dL_law_1102 ?_
  refine k_callI (As := [.int (zi (sx xs (i + 1)))]) (rest := []) hX2 hl.1 (q_tick hI2 σ (sx xs (i + 1)) hτ hv hN hM (sx_rng _ _)) (cwV 1 hts gL_law_X8_tick rfl rfl rfl (by decide +kernel) ⟨Nat.le_of_ble_eq_true rfl, Nat.le_of_ble_eq_true rfl⟩) (rc_M hC2 w2) w2 hS hcs rfl rfl (Nat.le_of_ble_eq_true rfl) dL_law_1103 (fun H2 locs2 w2 hS _ hk => ?_)
  replace w1 := la_k1 hA w1 hk
  replace hO := la_o hA hO hk
  replace hD := la_d hA hD hk
  clear hk
  refine lv_istore (lv' := [(7, .int (zi (bi (cd_tick τ (sx xs (i + 1))) (fTick (sx xs (i + 1)).toNat (ups τ 30 0 0 0) 30 0 0) 0))), (6, .int (zi (cd_tick τ (sx xs (i + 1))))), (5, .int (zi i)), (4, .ref aD), (3, .ref ao), (2, .ref (ad2 0 0)), (1, .ref (ad1 0 0)), (0, .ref b)]) hx hb dL_law_1106 hl (by decide) rfl (fun ls hl => ?_)
  refine lv_aload_n hx hb dL_law_1108 rfl (lv_at hl 5 rfl) ?_
  refine k_callI (As := []) (rest := []) hX2 hl.1 (n_thrown hI2 (stp (cd_tick τ (sx xs (i + 1))) (fTick (sx xs (i + 1)).toNat (ups τ 30 0 0 0)) τ)) (cwV 0 hts gL_law_X8_thrown rfl rfl rfl (by decide +kernel) ⟨Nat.le_of_ble_eq_true rfl, Nat.le_of_ble_eq_true rfl⟩) (rc_M hC2 w2) w2 hS hcs rfl rfl (Nat.le_of_ble_eq_true rfl) dL_law_1109 (fun H3 locs3 w2 hS _ hk => ?_)
  replace w1 := la_k1 hA w1 hk
  replace hO := la_o hA hO hk
  replace hD := la_d hA hD hk
  clear hk
  obtain ⟨hv', h31⟩ := iv_tick (sx xs (i + 1)) hvt hM.1 h031 (sx_rng _ _)
  refine k_top0 h31 ?_
  have hcd := cdr_tick τ (sx xs (i + 1))
  refine lv_iload hx hb dL_law_1112 (lv_at hl 1 rfl) ?_
  refine k_icmp_eq (tgt := 1119) hC1 dL_law_1114 (by decide) ⟨⟨by omega, by omega⟩, ⟨by omega, by omega⟩⟩ (fun _ => ?_) (fun z => absurd rfl z)
  refine lv_iload hx hb dL_law_1119 (lv_at hl 1 rfl) ?_
  refine k_if_ne (tgt := 1136) hC1 dL_law_1121 (by decide) ⟨by omega, by omega⟩ (fun z => ?_) (fun z => ?_)
  · refine lv_goto (tgt := 1722) hx hb dL_law_1136 (by decide) ?_
    exact kk _ _ _ _ _ _ hv' ⟨w1, w2, hO, hD⟩ hS (lw_sub hl (fun q hq => List.mem_cons_of_mem _ (List.mem_cons_of_mem _ hq)))
  · refine lv_aload_n hx hb dL_law_1124 rfl (lv_at hl 4 rfl) ?_
    refine k_iconst hC1 dL_law_1125 ?_
    refine l_lald hx hb hK2 hO dL_law_1126 ?_
    refine lv_iload hx hb dL_law_1127 (lv_at hl 0 rfl) ?_
    refine lv_i2l hx hb dL_law_1129 rfl ?_
    refine l_lcmp hx hb (by rw [z, bx_0, bi_0]) dL_law_1130 ?_
    refine k_if_eq (tgt := 1136) hC1 dL_law_1131 (by decide) (by decide) (fun _ => ?_) (fun c9 => absurd rfl c9)
    refine lv_goto (tgt := 1722) hx hb dL_law_1136 (by decide) ?_
    exact kk _ _ _ _ _ _ hv' ⟨w1, w2, hO, hD⟩ hS (lw_sub hl (fun q hq => List.mem_cons_of_mem _ (List.mem_cons_of_mem _ hq)))
set_option maxHeartbeats 2000000 in
set_option maxRecDepth 100000 in
theorem lc_slide {p : Program} {l : Launch} {e : Env} {s : State} {m : MethodId} {below : List Frame} {meth : Method} {c : Code} {H : Heap} {locs : List Loc} {cells slots : Nat} {Q : State → Prop} {ls : Array Slot} {Dg : va_G} {cA : Nat → ClassId} {cL cD : ClassId} {ad1 ad2 : Nat → Int → Nat} {oc : Nat → Nat} {ao aD b L : Nat} {xs : Nat → Int32} {o : Int64} {d9 : UInt64} {σ : St} {N M i : Int} (hK : LK p l c s m meth b L xs Dg cA cL cD oc) (hA : LA ad1 ad2 ao aD s.heap.size) (hv : Inv N M σ) (hN : N ≤ 1000000) (hM : 0 ≤ M ∧ M ≤ 1000000) (hi : 0 ≤ i ∧ i + 5 ≤ L) (hcs : cells + 1 ≤ 603072 ∧ slots + 6 ≤ 7211114) (hW : LW Dg cA cL cD ad1 ad2 ao aD σ o d9 H) (hS : va_S (NA s.heap.size) s.heap H locs) (hl : lv_has ls 10 (lvL ad1 ad2 ao aD b i))
    (kk : ∀ (σ' : St) (o' : Int64) (d' : UInt64) (H1 : Heap) (locs1 : List Loc) (ls1 : Array Slot), Inv (N + 1) (M + 300) σ' → LW Dg cA cL cD ad1 ad2 ao aD σ' o' d' H1 → va_S (NA s.heap.size) s.heap H1 locs1 → lv_has ls1 10 (lvL ad1 ad2 ao aD b i) → W p l e room_1 s m #[Value.ref b] below meth c H1 locs1 (cells + 1) (slots + 6) Q (F0 m 1722 ls1 [])) : W p l e room_1 s m #[Value.ref b] below meth c H locs cells slots Q (F0 m 1139 ls []) := by
  have hX0 := hK.1
  obtain ⟨hI1, hI2, hWN, -, -, hg1, hg2, hgo, hgD⟩ := id hA
  have hX1 := kx_any hX0 hI1 hg1
  have hX2 := kx_any hX0 hI2 hg2
  have hC1 := hX1.1
  have hC2 := hX2.1
  have hx := hC1.1
  have hb := hC1.2.1
  have hts := hC1.2.2.2.1
  have hK2 := hK.2.1
  have hNc := hK.2.2.1
  have hfl := hK.2.2.2.2.2.1
  have hcs2 : cells ≤ 603072 ∧ slots ≤ 7211114 := by omega
  have hl : lv_has ls 10 [(5, .int (zi i)), (4, .ref aD), (3, .ref ao), (2, .ref (ad2 0 0)), (1, .ref (ad1 0 0)), (0, .ref b)] := hl
  obtain ⟨τ, hτ⟩ : ∃ z, z = ups σ 31 0 0 0 := ⟨_, rfl⟩
  have w1 : WP Dg ccnt ad1 (cE cA ad1 τ) H := by rw [hτ]; exact hW.tau
  obtain ⟨-, w2, hO, hD⟩ := hW
  have hvt : Inv N M τ := by rw [hτ]; exact Inv_o31 hv
  have h031 : τ 31 0 0 = 0 := by rw [hτ, ups_eq]
  refine lv_aload_n hx hb dL_law_1139 rfl (lv_at hl 4 rfl) ?_
  refine lv_aload_n hx hb dL_law_1140 rfl (lv_at hl 5 rfl) ?_
  refine lv_iload hx hb dL_law_1141 (lv_at hl 0 rfl) ?_
  refine k_iconst hC1 dL_law_1143 ?_
  refine k_iadd hC1 dL_law_1144 ?_
  refine l_sld hK hS (by omega) dL_law_1145 ?_
  refine lv_aload_n hx hb dL_law_1146 rfl (lv_at hl 2 rfl) ?_
  refine l_callW (hh := [(0, 9, 12, 19), (0, 9, 15, 42)]) (As := [.ref (ad1 0 0), .int (zi (sx xs (i + 1))), .ref ao]) (rest := []) hX1 hK2 hNc hgo hgD hl.1 (w_slide hI1 hWN hfl τ (sx xs (i + 1)) hvt hN hM (sx_rng _ _) o d9) (vx_cwSW 3 hts gL_law_L_slide rfl rfl rfl (by decide +kernel) ⟨Nat.le_of_ble_eq_true rfl, Nat.le_of_ble_eq_true rfl⟩) w1 hO hD hS hcs rfl rfl (Nat.le_of_ble_eq_true rfl) dL_law_1147 (fun H1 locs1 w1 hO hD hS hk => ?_)
  replace w2 := la_k2 hA w2 hk
  clear hk
  refine lv_istore (lv' := [(6, .int (zi (cd_slide τ (sx xs (i + 1))))), (5, .int (zi i)), (4, .ref aD), (3, .ref ao), (2, .ref (ad2 0 0)), (1, .ref (ad1 0 0)), (0, .ref b)]) hx hb dL_law_1150 hl (by decide) rfl (fun ls hl => ?_)
  refine lv_aload_n hx hb dL_law_1152 rfl (lv_at hl 4 rfl) ?_
  refine lv_aload_n hx hb dL_law_1153 rfl (lv_at hl 6 rfl) ?_
  refine lv_iload hx hb dL_law_1154 (lv_at hl 1 rfl) ?_
  refine k_iconst hC1 dL_law_1156 ?_
  refine k_iadd hC1 dL_law_1157 ?_
  refine l_sld hK hS (by omega) dL_law_1158 ?_
  refine k_callI (As := [.int (zi (sx xs (i + 1)))]) (rest := []) hX2 hl.1 (q_slide hI2 σ (sx xs (i + 1)) hτ hv hN hM (sx_rng _ _)) (cwV 1 hts gL_law_X8_slide rfl rfl rfl (by decide +kernel) ⟨Nat.le_of_ble_eq_true rfl, Nat.le_of_ble_eq_true rfl⟩) (rc_M hC2 w2) w2 hS hcs rfl rfl (Nat.le_of_ble_eq_true rfl) dL_law_1159 (fun H2 locs2 w2 hS _ hk => ?_)
  replace w1 := la_k1 hA w1 hk
  replace hO := la_o hA hO hk
  replace hD := la_d hA hD hk
  clear hk
  refine lv_istore (lv' := [(7, .int (zi (bi (cd_slide τ (sx xs (i + 1))) (τ 15 (sx xs (i + 1)) 0) 0))), (6, .int (zi (cd_slide τ (sx xs (i + 1))))), (5, .int (zi i)), (4, .ref aD), (3, .ref ao), (2, .ref (ad2 0 0)), (1, .ref (ad1 0 0)), (0, .ref b)]) hx hb dL_law_1162 hl (by decide) rfl (fun ls hl => ?_)
  refine lv_aload_n hx hb dL_law_1164 rfl (lv_at hl 5 rfl) ?_
  refine k_callI (As := []) (rest := []) hX2 hl.1 (n_thrown hI2 (stp (cd_slide τ (sx xs (i + 1))) τ τ)) (cwV 0 hts gL_law_X8_thrown rfl rfl rfl (by decide +kernel) ⟨Nat.le_of_ble_eq_true rfl, Nat.le_of_ble_eq_true rfl⟩) (rc_M hC2 w2) w2 hS hcs rfl rfl (Nat.le_of_ble_eq_true rfl) dL_law_1165 (fun H3 locs3 w2 hS _ hk => ?_)
  replace w1 := la_k1 hA w1 hk
  replace hO := la_o hA hO hk
  replace hD := la_d hA hD hk
  clear hk
  obtain ⟨hv', h31⟩ := iv_slide (sx xs (i + 1)) hvt hM.1 h031 (sx_rng _ _)
  refine k_top0 h31 ?_
  have hcd := cdr_slide τ (sx xs (i + 1))
  refine lv_iload hx hb dL_law_1168 (lv_at hl 1 rfl) ?_
  refine k_icmp_eq (tgt := 1175) hC1 dL_law_1170 (by decide) ⟨⟨by omega, by omega⟩, ⟨by omega, by omega⟩⟩ (fun _ => ?_) (fun z => absurd rfl z)
  refine lv_iload hx hb dL_law_1175 (lv_at hl 1 rfl) ?_
  refine k_if_ne (tgt := 1192) hC1 dL_law_1177 (by decide) ⟨by omega, by omega⟩ (fun z => ?_) (fun z => ?_)
  · refine lv_goto (tgt := 1722) hx hb dL_law_1192 (by decide) ?_
    exact kk _ _ _ _ _ _ hv' ⟨w1, w2, hO, hD⟩ hS (lw_sub hl (fun q hq => List.mem_cons_of_mem _ (List.mem_cons_of_mem _ hq)))
  · refine lv_aload_n hx hb dL_law_1180 rfl (lv_at hl 4 rfl) ?_
    refine k_iconst hC1 dL_law_1181 ?_
    refine l_lald hx hb hK2 hO dL_law_1182 ?_
    refine lv_iload hx hb dL_law_1183 (lv_at hl 0 rfl) ?_
    refine lv_i2l hx hb dL_law_1185 rfl ?_
    refine l_lcmp hx hb (by rw [z, bx_0, bi_0]) dL_law_1186 ?_
    refine k_if_eq (tgt := 1192) hC1 dL_law_1187 (by decide) (by decide) (fun _ => ?_) (fun c9 => absurd rfl c9)
    refine lv_goto (tgt := 1722) hx hb dL_law_1192 (by decide) ?_
    exact kk _ _ _ _ _ _ hv' ⟨w1, w2, hO, hD⟩ hS (lw_sub hl (fun q hq => List.mem_cons_of_mem _ (List.mem_cons_of_mem _ hq)))
set_option maxHeartbeats 2000000 in
set_option maxRecDepth 100000 in
theorem lc_holder {p : Program} {l : Launch} {e : Env} {s : State} {m : MethodId} {below : List Frame} {meth : Method} {c : Code} {H : Heap} {locs : List Loc} {cells slots : Nat} {Q : State → Prop} {ls : Array Slot} {Dg : va_G} {cA : Nat → ClassId} {cL cD : ClassId} {ad1 ad2 : Nat → Int → Nat} {oc : Nat → Nat} {ao aD b L : Nat} {xs : Nat → Int32} {o : Int64} {d9 : UInt64} {σ : St} {N M i : Int} (hK : LK p l c s m meth b L xs Dg cA cL cD oc) (hA : LA ad1 ad2 ao aD s.heap.size) (hv : Inv N M σ) (hN : N ≤ 1000000) (hM : 0 ≤ M ∧ M ≤ 1000000) (hi : 0 ≤ i ∧ i + 5 ≤ L) (hcs : cells + 1 ≤ 603072 ∧ slots + 6 ≤ 7211114) (hW : LW Dg cA cL cD ad1 ad2 ao aD σ o d9 H) (hS : va_S (NA s.heap.size) s.heap H locs) (hl : lv_has ls 10 (lvL ad1 ad2 ao aD b i))
    (kk : ∀ (σ' : St) (o' : Int64) (d' : UInt64) (H1 : Heap) (locs1 : List Loc) (ls1 : Array Slot), Inv (N + 1) (M + 300) σ' → LW Dg cA cL cD ad1 ad2 ao aD σ' o' d' H1 → va_S (NA s.heap.size) s.heap H1 locs1 → lv_has ls1 10 (lvL ad1 ad2 ao aD b i) → W p l e room_1 s m #[Value.ref b] below meth c H1 locs1 (cells + 1) (slots + 6) Q (F0 m 1722 ls1 [])) : W p l e room_1 s m #[Value.ref b] below meth c H locs cells slots Q (F0 m 1195 ls []) := by
  have hX0 := hK.1
  obtain ⟨hI1, hI2, hWN, -, -, hg1, hg2, hgo, hgD⟩ := id hA
  have hX1 := kx_any hX0 hI1 hg1
  have hX2 := kx_any hX0 hI2 hg2
  have hC1 := hX1.1
  have hC2 := hX2.1
  have hx := hC1.1
  have hb := hC1.2.1
  have hts := hC1.2.2.2.1
  have hK2 := hK.2.1
  have hNc := hK.2.2.1
  have hfl := hK.2.2.2.2.2.1
  have hcs2 : cells ≤ 603072 ∧ slots ≤ 7211114 := by omega
  have hl : lv_has ls 10 [(5, .int (zi i)), (4, .ref aD), (3, .ref ao), (2, .ref (ad2 0 0)), (1, .ref (ad1 0 0)), (0, .ref b)] := hl
  obtain ⟨τ, hτ⟩ : ∃ z, z = ups σ 31 0 0 0 := ⟨_, rfl⟩
  have w1 : WP Dg ccnt ad1 (cE cA ad1 τ) H := by rw [hτ]; exact hW.tau
  obtain ⟨-, w2, hO, hD⟩ := hW
  have hvt : Inv N M τ := by rw [hτ]; exact Inv_o31 hv
  have h031 : τ 31 0 0 = 0 := by rw [hτ, ups_eq]
  refine lv_aload_n hx hb dL_law_1195 rfl (lv_at hl 4 rfl) ?_
  refine lv_aload_n hx hb dL_law_1196 rfl (lv_at hl 5 rfl) ?_
  refine lv_iload hx hb dL_law_1197 (lv_at hl 0 rfl) ?_
  refine k_iconst hC1 dL_law_1199 ?_
  refine k_iadd hC1 dL_law_1200 ?_
  refine l_sld hK hS (by omega) dL_law_1201 ?_
  refine lv_aload_n hx hb dL_law_1202 rfl (lv_at hl 2 rfl) ?_
  refine l_callW (hh := [(0, 9, 12, 19), (0, 9, 15, 42)]) (As := [.ref (ad1 0 0), .int (zi (sx xs (i + 1))), .ref ao]) (rest := []) hX1 hK2 hNc hgo hgD hl.1 (w_holder hI1 hWN hfl τ (sx xs (i + 1)) hvt hN hM (sx_rng _ _) o d9) (vx_cwSW 3 hts gL_law_L_holder rfl rfl rfl (by decide +kernel) ⟨Nat.le_of_ble_eq_true rfl, Nat.le_of_ble_eq_true rfl⟩) w1 hO hD hS hcs rfl rfl (Nat.le_of_ble_eq_true rfl) dL_law_1203 (fun H1 locs1 w1 hO hD hS hk => ?_)
  replace w2 := la_k2 hA w2 hk
  clear hk
  refine lv_istore (lv' := [(6, .int (zi (cd_holder τ (sx xs (i + 1))))), (5, .int (zi i)), (4, .ref aD), (3, .ref ao), (2, .ref (ad2 0 0)), (1, .ref (ad1 0 0)), (0, .ref b)]) hx hb dL_law_1206 hl (by decide) rfl (fun ls hl => ?_)
  refine lv_aload_n hx hb dL_law_1208 rfl (lv_at hl 4 rfl) ?_
  refine lv_aload_n hx hb dL_law_1209 rfl (lv_at hl 6 rfl) ?_
  refine lv_iload hx hb dL_law_1210 (lv_at hl 1 rfl) ?_
  refine k_iconst hC1 dL_law_1212 ?_
  refine k_iadd hC1 dL_law_1213 ?_
  refine l_sld hK hS (by omega) dL_law_1214 ?_
  refine k_callI (As := [.int (zi (sx xs (i + 1)))]) (rest := []) hX2 hl.1 (q_holder hI2 σ (sx xs (i + 1)) hτ hv hN hM (sx_rng _ _)) (cwV 1 hts gL_law_X8_holder rfl rfl rfl (by decide +kernel) ⟨Nat.le_of_ble_eq_true rfl, Nat.le_of_ble_eq_true rfl⟩) (rc_M hC2 w2) w2 hS hcs rfl rfl (Nat.le_of_ble_eq_true rfl) dL_law_1215 (fun H2 locs2 w2 hS _ hk => ?_)
  replace w1 := la_k1 hA w1 hk
  replace hO := la_o hA hO hk
  replace hD := la_d hA hD hk
  clear hk
  refine lv_istore (lv' := [(7, .int (zi (bi (cd_holder τ (sx xs (i + 1))) (τ 18 (sx xs (i + 1)) 0) 0))), (6, .int (zi (cd_holder τ (sx xs (i + 1))))), (5, .int (zi i)), (4, .ref aD), (3, .ref ao), (2, .ref (ad2 0 0)), (1, .ref (ad1 0 0)), (0, .ref b)]) hx hb dL_law_1218 hl (by decide) rfl (fun ls hl => ?_)
  refine lv_aload_n hx hb dL_law_1220 rfl (lv_at hl 5 rfl) ?_
  refine k_callI (As := []) (rest := []) hX2 hl.1 (n_thrown hI2 (stp (cd_holder τ (sx xs (i + 1))) τ τ)) (cwV 0 hts gL_law_X8_thrown rfl rfl rfl (by decide +kernel) ⟨Nat.le_of_ble_eq_true rfl, Nat.le_of_ble_eq_true rfl⟩) (rc_M hC2 w2) w2 hS hcs rfl rfl (Nat.le_of_ble_eq_true rfl) dL_law_1221 (fun H3 locs3 w2 hS _ hk => ?_)
  replace w1 := la_k1 hA w1 hk
  replace hO := la_o hA hO hk
  replace hD := la_d hA hD hk
  clear hk
  obtain ⟨hv', h31⟩ := iv_holder (sx xs (i + 1)) hvt hM.1 h031 (sx_rng _ _)
  refine k_top0 h31 ?_
  have hcd := cdr_holder τ (sx xs (i + 1))
  refine lv_iload hx hb dL_law_1224 (lv_at hl 1 rfl) ?_
  refine k_icmp_eq (tgt := 1231) hC1 dL_law_1226 (by decide) ⟨⟨by omega, by omega⟩, ⟨by omega, by omega⟩⟩ (fun _ => ?_) (fun z => absurd rfl z)
  refine lv_iload hx hb dL_law_1231 (lv_at hl 1 rfl) ?_
  refine k_if_ne (tgt := 1248) hC1 dL_law_1233 (by decide) ⟨by omega, by omega⟩ (fun z => ?_) (fun z => ?_)
  · refine lv_goto (tgt := 1722) hx hb dL_law_1248 (by decide) ?_
    exact kk _ _ _ _ _ _ hv' ⟨w1, w2, hO, hD⟩ hS (lw_sub hl (fun q hq => List.mem_cons_of_mem _ (List.mem_cons_of_mem _ hq)))
  · refine lv_aload_n hx hb dL_law_1236 rfl (lv_at hl 4 rfl) ?_
    refine k_iconst hC1 dL_law_1237 ?_
    refine l_lald hx hb hK2 hO dL_law_1238 ?_
    refine lv_iload hx hb dL_law_1239 (lv_at hl 0 rfl) ?_
    refine lv_i2l hx hb dL_law_1241 rfl ?_
    refine l_lcmp hx hb (by rw [z, bx_0, bi_0]) dL_law_1242 ?_
    refine k_if_eq (tgt := 1248) hC1 dL_law_1243 (by decide) (by decide) (fun _ => ?_) (fun c9 => absurd rfl c9)
    refine lv_goto (tgt := 1722) hx hb dL_law_1248 (by decide) ?_
    exact kk _ _ _ _ _ _ hv' ⟨w1, w2, hO, hD⟩ hS (lw_sub hl (fun q hq => List.mem_cons_of_mem _ (List.mem_cons_of_mem _ hq)))
set_option maxHeartbeats 2000000 in
set_option maxRecDepth 100000 in
theorem lc_queued {p : Program} {l : Launch} {e : Env} {s : State} {m : MethodId} {below : List Frame} {meth : Method} {c : Code} {H : Heap} {locs : List Loc} {cells slots : Nat} {Q : State → Prop} {ls : Array Slot} {Dg : va_G} {cA : Nat → ClassId} {cL cD : ClassId} {ad1 ad2 : Nat → Int → Nat} {oc : Nat → Nat} {ao aD b L : Nat} {xs : Nat → Int32} {o : Int64} {d9 : UInt64} {σ : St} {N M i : Int} (hK : LK p l c s m meth b L xs Dg cA cL cD oc) (hA : LA ad1 ad2 ao aD s.heap.size) (hv : Inv N M σ) (hN : N ≤ 1000000) (hM : 0 ≤ M ∧ M ≤ 1000000) (hi : 0 ≤ i ∧ i + 5 ≤ L) (hcs : cells + 1 ≤ 603072 ∧ slots + 6 ≤ 7211114) (hW : LW Dg cA cL cD ad1 ad2 ao aD σ o d9 H) (hS : va_S (NA s.heap.size) s.heap H locs) (hl : lv_has ls 10 (lvL ad1 ad2 ao aD b i))
    (kk : ∀ (σ' : St) (o' : Int64) (d' : UInt64) (H1 : Heap) (locs1 : List Loc) (ls1 : Array Slot), Inv (N + 1) (M + 300) σ' → LW Dg cA cL cD ad1 ad2 ao aD σ' o' d' H1 → va_S (NA s.heap.size) s.heap H1 locs1 → lv_has ls1 10 (lvL ad1 ad2 ao aD b i) → W p l e room_1 s m #[Value.ref b] below meth c H1 locs1 (cells + 1) (slots + 6) Q (F0 m 1722 ls1 [])) : W p l e room_1 s m #[Value.ref b] below meth c H locs cells slots Q (F0 m 1251 ls []) := by
  have hX0 := hK.1
  obtain ⟨hI1, hI2, hWN, -, -, hg1, hg2, hgo, hgD⟩ := id hA
  have hX1 := kx_any hX0 hI1 hg1
  have hX2 := kx_any hX0 hI2 hg2
  have hC1 := hX1.1
  have hC2 := hX2.1
  have hx := hC1.1
  have hb := hC1.2.1
  have hts := hC1.2.2.2.1
  have hK2 := hK.2.1
  have hNc := hK.2.2.1
  have hfl := hK.2.2.2.2.2.1
  have hcs2 : cells ≤ 603072 ∧ slots ≤ 7211114 := by omega
  have hl : lv_has ls 10 [(5, .int (zi i)), (4, .ref aD), (3, .ref ao), (2, .ref (ad2 0 0)), (1, .ref (ad1 0 0)), (0, .ref b)] := hl
  obtain ⟨τ, hτ⟩ : ∃ z, z = ups σ 31 0 0 0 := ⟨_, rfl⟩
  have w1 : WP Dg ccnt ad1 (cE cA ad1 τ) H := by rw [hτ]; exact hW.tau
  obtain ⟨-, w2, hO, hD⟩ := hW
  have hvt : Inv N M τ := by rw [hτ]; exact Inv_o31 hv
  have h031 : τ 31 0 0 = 0 := by rw [hτ, ups_eq]
  refine lv_aload_n hx hb dL_law_1251 rfl (lv_at hl 4 rfl) ?_
  refine lv_aload_n hx hb dL_law_1252 rfl (lv_at hl 5 rfl) ?_
  refine lv_iload hx hb dL_law_1253 (lv_at hl 0 rfl) ?_
  refine k_iconst hC1 dL_law_1255 ?_
  refine k_iadd hC1 dL_law_1256 ?_
  refine l_sld hK hS (by omega) dL_law_1257 ?_
  refine lv_aload_n hx hb dL_law_1258 rfl (lv_at hl 5 rfl) ?_
  refine lv_iload hx hb dL_law_1259 (lv_at hl 0 rfl) ?_
  refine k_iconst hC1 dL_law_1261 ?_
  refine k_iadd hC1 dL_law_1262 ?_
  refine l_sld hK hS (by omega) dL_law_1263 ?_
  refine lv_aload_n hx hb dL_law_1264 rfl (lv_at hl 2 rfl) ?_
  refine l_callW (hh := [(0, 10, 13, 19), (0, 10, 17, 42)]) (As := [.ref (ad1 0 0), .int (zi (sx xs (i + 1))), .int (zi (sx xs (i + 2))), .ref ao]) (rest := []) hX1 hK2 hNc hgo hgD hl.1 (w_queued hI1 hWN hfl τ (sx xs (i + 1)) (sx xs (i + 2)) hvt hN hM (sx_rng _ _) (sx_rng _ _) o d9) (vx_cwSW 4 hts gL_law_L_queued rfl rfl rfl (by decide +kernel) ⟨Nat.le_of_ble_eq_true rfl, Nat.le_of_ble_eq_true rfl⟩) w1 hO hD hS hcs rfl rfl (Nat.le_of_ble_eq_true rfl) dL_law_1265 (fun H1 locs1 w1 hO hD hS hk => ?_)
  replace w2 := la_k2 hA w2 hk
  clear hk
  refine lv_istore (lv' := [(6, .int (zi (cd_queued τ (sx xs (i + 1)) (sx xs (i + 2))))), (5, .int (zi i)), (4, .ref aD), (3, .ref ao), (2, .ref (ad2 0 0)), (1, .ref (ad1 0 0)), (0, .ref b)]) hx hb dL_law_1268 hl (by decide) rfl (fun ls hl => ?_)
  refine lv_aload_n hx hb dL_law_1270 rfl (lv_at hl 4 rfl) ?_
  refine lv_aload_n hx hb dL_law_1271 rfl (lv_at hl 6 rfl) ?_
  refine lv_iload hx hb dL_law_1272 (lv_at hl 1 rfl) ?_
  refine k_iconst hC1 dL_law_1274 ?_
  refine k_iadd hC1 dL_law_1275 ?_
  refine l_sld hK hS (by omega) dL_law_1276 ?_
  refine lv_aload_n hx hb dL_law_1277 rfl (lv_at hl 6 rfl) ?_
  refine lv_iload hx hb dL_law_1278 (lv_at hl 1 rfl) ?_
  refine k_iconst hC1 dL_law_1280 ?_
  refine k_iadd hC1 dL_law_1281 ?_
  refine l_sld hK hS (by omega) dL_law_1282 ?_
  refine k_callI (As := [.int (zi (sx xs (i + 1))), .int (zi (sx xs (i + 2)))]) (rest := []) hX2 hl.1 (q_queued hI2 σ (sx xs (i + 1)) (sx xs (i + 2)) hτ hv hN hM (sx_rng _ _) (sx_rng _ _)) (cwV 2 hts gL_law_X8_queued rfl rfl rfl (by decide +kernel) ⟨Nat.le_of_ble_eq_true rfl, Nat.le_of_ble_eq_true rfl⟩) (rc_M hC2 w2) w2 hS hcs rfl rfl (Nat.le_of_ble_eq_true rfl) dL_law_1283 (fun H2 locs2 w2 hS _ hk => ?_)
  replace w1 := la_k1 hA w1 hk
  replace hO := la_o hA hO hk
  replace hD := la_d hA hD hk
  clear hk
  refine lv_istore (lv' := [(7, .int (zi (bi (cd_queued τ (sx xs (i + 1)) (sx xs (i + 2))) (τ 16 (6 + (sx xs (i + 1))) (sx xs (i + 2))) 0))), (6, .int (zi (cd_queued τ (sx xs (i + 1)) (sx xs (i + 2))))), (5, .int (zi i)), (4, .ref aD), (3, .ref ao), (2, .ref (ad2 0 0)), (1, .ref (ad1 0 0)), (0, .ref b)]) hx hb dL_law_1286 hl (by decide) rfl (fun ls hl => ?_)
  refine lv_aload_n hx hb dL_law_1288 rfl (lv_at hl 5 rfl) ?_
  refine k_callI (As := []) (rest := []) hX2 hl.1 (n_thrown hI2 (stp (cd_queued τ (sx xs (i + 1)) (sx xs (i + 2))) τ τ)) (cwV 0 hts gL_law_X8_thrown rfl rfl rfl (by decide +kernel) ⟨Nat.le_of_ble_eq_true rfl, Nat.le_of_ble_eq_true rfl⟩) (rc_M hC2 w2) w2 hS hcs rfl rfl (Nat.le_of_ble_eq_true rfl) dL_law_1289 (fun H3 locs3 w2 hS _ hk => ?_)
  replace w1 := la_k1 hA w1 hk
  replace hO := la_o hA hO hk
  replace hD := la_d hA hD hk
  clear hk
  obtain ⟨hv', h31⟩ := iv_queued (sx xs (i + 1)) (sx xs (i + 2)) hvt hM.1 h031 (sx_rng _ _) (sx_rng _ _)
  refine k_top0 h31 ?_
  have hcd := cdr_queued τ (sx xs (i + 1)) (sx xs (i + 2))
  refine lv_iload hx hb dL_law_1292 (lv_at hl 1 rfl) ?_
  refine k_icmp_eq (tgt := 1299) hC1 dL_law_1294 (by decide) ⟨⟨by omega, by omega⟩, ⟨by omega, by omega⟩⟩ (fun _ => ?_) (fun z => absurd rfl z)
  refine lv_iload hx hb dL_law_1299 (lv_at hl 1 rfl) ?_
  refine k_if_ne (tgt := 1316) hC1 dL_law_1301 (by decide) ⟨by omega, by omega⟩ (fun z => ?_) (fun z => ?_)
  · refine lv_goto (tgt := 1722) hx hb dL_law_1316 (by decide) ?_
    exact kk _ _ _ _ _ _ hv' ⟨w1, w2, hO, hD⟩ hS (lw_sub hl (fun q hq => List.mem_cons_of_mem _ (List.mem_cons_of_mem _ hq)))
  · refine lv_aload_n hx hb dL_law_1304 rfl (lv_at hl 4 rfl) ?_
    refine k_iconst hC1 dL_law_1305 ?_
    refine l_lald hx hb hK2 hO dL_law_1306 ?_
    refine lv_iload hx hb dL_law_1307 (lv_at hl 0 rfl) ?_
    refine lv_i2l hx hb dL_law_1309 rfl ?_
    refine l_lcmp hx hb (by rw [z, bx_0, bi_0]) dL_law_1310 ?_
    refine k_if_eq (tgt := 1316) hC1 dL_law_1311 (by decide) (by decide) (fun _ => ?_) (fun c9 => absurd rfl c9)
    refine lv_goto (tgt := 1722) hx hb dL_law_1316 (by decide) ?_
    exact kk _ _ _ _ _ _ hv' ⟨w1, w2, hO, hD⟩ hS (lw_sub hl (fun q hq => List.mem_cons_of_mem _ (List.mem_cons_of_mem _ hq)))
set_option maxHeartbeats 2000000 in
set_option maxRecDepth 100000 in
theorem lc_visitor {p : Program} {l : Launch} {e : Env} {s : State} {m : MethodId} {below : List Frame} {meth : Method} {c : Code} {H : Heap} {locs : List Loc} {cells slots : Nat} {Q : State → Prop} {ls : Array Slot} {Dg : va_G} {cA : Nat → ClassId} {cL cD : ClassId} {ad1 ad2 : Nat → Int → Nat} {oc : Nat → Nat} {ao aD b L : Nat} {xs : Nat → Int32} {o : Int64} {d9 : UInt64} {σ : St} {N M i : Int} (hK : LK p l c s m meth b L xs Dg cA cL cD oc) (hA : LA ad1 ad2 ao aD s.heap.size) (hv : Inv N M σ) (hN : N ≤ 1000000) (hM : 0 ≤ M ∧ M ≤ 1000000) (hi : 0 ≤ i ∧ i + 5 ≤ L) (hcs : cells + 1 ≤ 603072 ∧ slots + 6 ≤ 7211114) (hW : LW Dg cA cL cD ad1 ad2 ao aD σ o d9 H) (hS : va_S (NA s.heap.size) s.heap H locs) (hl : lv_has ls 10 (lvL ad1 ad2 ao aD b i))
    (kk : ∀ (σ' : St) (o' : Int64) (d' : UInt64) (H1 : Heap) (locs1 : List Loc) (ls1 : Array Slot), Inv (N + 1) (M + 300) σ' → LW Dg cA cL cD ad1 ad2 ao aD σ' o' d' H1 → va_S (NA s.heap.size) s.heap H1 locs1 → lv_has ls1 10 (lvL ad1 ad2 ao aD b i) → W p l e room_1 s m #[Value.ref b] below meth c H1 locs1 (cells + 1) (slots + 6) Q (F0 m 1722 ls1 [])) : W p l e room_1 s m #[Value.ref b] below meth c H locs cells slots Q (F0 m 1319 ls []) := by
  have hX0 := hK.1
  obtain ⟨hI1, hI2, hWN, -, -, hg1, hg2, hgo, hgD⟩ := id hA
  have hX1 := kx_any hX0 hI1 hg1
  have hX2 := kx_any hX0 hI2 hg2
  have hC1 := hX1.1
  have hC2 := hX2.1
  have hx := hC1.1
  have hb := hC1.2.1
  have hts := hC1.2.2.2.1
  have hK2 := hK.2.1
  have hNc := hK.2.2.1
  have hfl := hK.2.2.2.2.2.1
  have hcs2 : cells ≤ 603072 ∧ slots ≤ 7211114 := by omega
  have hl : lv_has ls 10 [(5, .int (zi i)), (4, .ref aD), (3, .ref ao), (2, .ref (ad2 0 0)), (1, .ref (ad1 0 0)), (0, .ref b)] := hl
  obtain ⟨τ, hτ⟩ : ∃ z, z = ups σ 31 0 0 0 := ⟨_, rfl⟩
  have w1 : WP Dg ccnt ad1 (cE cA ad1 τ) H := by rw [hτ]; exact hW.tau
  obtain ⟨-, w2, hO, hD⟩ := hW
  have hvt : Inv N M τ := by rw [hτ]; exact Inv_o31 hv
  have h031 : τ 31 0 0 = 0 := by rw [hτ, ups_eq]
  refine lv_aload_n hx hb dL_law_1319 rfl (lv_at hl 4 rfl) ?_
  refine lv_aload_n hx hb dL_law_1320 rfl (lv_at hl 2 rfl) ?_
  refine l_callW (hh := [(0, 8, 11, 13)]) (As := [.ref (ad1 0 0), .ref ao]) (rest := []) hX1 hK2 hNc hgo hgD hl.1 (w_visitor hI1 hWN hfl τ hvt hN hM  o d9) (vx_cwSW 2 hts gL_law_L_visitor rfl rfl rfl (by decide +kernel) ⟨Nat.le_of_ble_eq_true rfl, Nat.le_of_ble_eq_true rfl⟩) w1 hO hD hS hcs rfl rfl (Nat.le_of_ble_eq_true rfl) dL_law_1321 (fun H1 locs1 w1 hO hD hS hk => ?_)
  replace w2 := la_k2 hA w2 hk
  clear hk
  refine lv_istore (lv' := [(6, .int (zi (cd_visitor τ))), (5, .int (zi i)), (4, .ref aD), (3, .ref ao), (2, .ref (ad2 0 0)), (1, .ref (ad1 0 0)), (0, .ref b)]) hx hb dL_law_1324 hl (by decide) rfl (fun ls hl => ?_)
  refine lv_aload_n hx hb dL_law_1326 rfl (lv_at hl 4 rfl) ?_
  refine k_callI (As := []) (rest := []) hX2 hl.1 (q_visitor hI2 σ hτ hv hN hM ) (cwV 0 hts gL_law_X8_visitor rfl rfl rfl (by decide +kernel) ⟨Nat.le_of_ble_eq_true rfl, Nat.le_of_ble_eq_true rfl⟩) (rc_M hC2 w2) w2 hS hcs rfl rfl (Nat.le_of_ble_eq_true rfl) dL_law_1327 (fun H2 locs2 w2 hS _ hk => ?_)
  replace w1 := la_k1 hA w1 hk
  replace hO := la_o hA hO hk
  replace hD := la_d hA hD hk
  clear hk
  refine lv_istore (lv' := [(7, .int (zi (bi (cd_visitor τ) (τ 28 0 0) 0))), (6, .int (zi (cd_visitor τ))), (5, .int (zi i)), (4, .ref aD), (3, .ref ao), (2, .ref (ad2 0 0)), (1, .ref (ad1 0 0)), (0, .ref b)]) hx hb dL_law_1330 hl (by decide) rfl (fun ls hl => ?_)
  refine lv_aload_n hx hb dL_law_1332 rfl (lv_at hl 5 rfl) ?_
  refine k_callI (As := []) (rest := []) hX2 hl.1 (n_thrown hI2 (stp (cd_visitor τ) (ups τ 28 0 0 (τ 28 0 0 + 1)) τ)) (cwV 0 hts gL_law_X8_thrown rfl rfl rfl (by decide +kernel) ⟨Nat.le_of_ble_eq_true rfl, Nat.le_of_ble_eq_true rfl⟩) (rc_M hC2 w2) w2 hS hcs rfl rfl (Nat.le_of_ble_eq_true rfl) dL_law_1333 (fun H3 locs3 w2 hS _ hk => ?_)
  replace w1 := la_k1 hA w1 hk
  replace hO := la_o hA hO hk
  replace hD := la_d hA hD hk
  clear hk
  obtain ⟨hv', h31⟩ := iv_visitor hvt hM.1 h031 
  refine k_top0 h31 ?_
  have hcd := cdr_visitor τ
  refine lv_iload hx hb dL_law_1336 (lv_at hl 1 rfl) ?_
  refine k_icmp_eq (tgt := 1343) hC1 dL_law_1338 (by decide) ⟨⟨by omega, by omega⟩, ⟨by omega, by omega⟩⟩ (fun _ => ?_) (fun z => absurd rfl z)
  refine lv_iload hx hb dL_law_1343 (lv_at hl 1 rfl) ?_
  refine k_if_ne (tgt := 1360) hC1 dL_law_1345 (by decide) ⟨by omega, by omega⟩ (fun z => ?_) (fun z => ?_)
  · refine lv_goto (tgt := 1722) hx hb dL_law_1360 (by decide) ?_
    exact kk _ _ _ _ _ _ hv' ⟨w1, w2, hO, hD⟩ hS (lw_sub hl (fun q hq => List.mem_cons_of_mem _ (List.mem_cons_of_mem _ hq)))
  · refine lv_aload_n hx hb dL_law_1348 rfl (lv_at hl 4 rfl) ?_
    refine k_iconst hC1 dL_law_1349 ?_
    refine l_lald hx hb hK2 hO dL_law_1350 ?_
    refine lv_iload hx hb dL_law_1351 (lv_at hl 0 rfl) ?_
    refine lv_i2l hx hb dL_law_1353 rfl ?_
    refine l_lcmp hx hb (by rw [z, bx_0, bi_0]) dL_law_1354 ?_
    refine k_if_eq (tgt := 1360) hC1 dL_law_1355 (by decide) (by decide) (fun _ => ?_) (fun c9 => absurd rfl c9)
    refine lv_goto (tgt := 1722) hx hb dL_law_1360 (by decide) ?_
    exact kk _ _ _ _ _ _ hv' ⟨w1, w2, hO, hD⟩ hS (lw_sub hl (fun q hq => List.mem_cons_of_mem _ (List.mem_cons_of_mem _ hq)))
set_option maxHeartbeats 2000000 in
set_option maxRecDepth 100000 in
theorem lc_go {p : Program} {l : Launch} {e : Env} {s : State} {m : MethodId} {below : List Frame} {meth : Method} {c : Code} {H : Heap} {locs : List Loc} {cells slots : Nat} {Q : State → Prop} {ls : Array Slot} {Dg : va_G} {cA : Nat → ClassId} {cL cD : ClassId} {ad1 ad2 : Nat → Int → Nat} {oc : Nat → Nat} {ao aD b L : Nat} {xs : Nat → Int32} {o : Int64} {d9 : UInt64} {σ : St} {N M i : Int} (hK : LK p l c s m meth b L xs Dg cA cL cD oc) (hA : LA ad1 ad2 ao aD s.heap.size) (hv : Inv N M σ) (hN : N ≤ 1000000) (hM : 0 ≤ M ∧ M ≤ 1000000) (hi : 0 ≤ i ∧ i + 5 ≤ L) (hcs : cells + 1 ≤ 603072 ∧ slots + 6 ≤ 7211114) (hW : LW Dg cA cL cD ad1 ad2 ao aD σ o d9 H) (hS : va_S (NA s.heap.size) s.heap H locs) (hl : lv_has ls 10 (lvL ad1 ad2 ao aD b i))
    (kk : ∀ (σ' : St) (o' : Int64) (d' : UInt64) (H1 : Heap) (locs1 : List Loc) (ls1 : Array Slot), Inv (N + 1) (M + 300) σ' → LW Dg cA cL cD ad1 ad2 ao aD σ' o' d' H1 → va_S (NA s.heap.size) s.heap H1 locs1 → lv_has ls1 10 (lvL ad1 ad2 ao aD b i) → W p l e room_1 s m #[Value.ref b] below meth c H1 locs1 (cells + 1) (slots + 6) Q (F0 m 1722 ls1 [])) : W p l e room_1 s m #[Value.ref b] below meth c H locs cells slots Q (F0 m 1363 ls []) := by
  have hX0 := hK.1
  obtain ⟨hI1, hI2, hWN, -, -, hg1, hg2, hgo, hgD⟩ := id hA
  have hX1 := kx_any hX0 hI1 hg1
  have hX2 := kx_any hX0 hI2 hg2
  have hC1 := hX1.1
  have hC2 := hX2.1
  have hx := hC1.1
  have hb := hC1.2.1
  have hts := hC1.2.2.2.1
  have hK2 := hK.2.1
  have hNc := hK.2.2.1
  have hfl := hK.2.2.2.2.2.1
  have hcs2 : cells ≤ 603072 ∧ slots ≤ 7211114 := by omega
  have hl : lv_has ls 10 [(5, .int (zi i)), (4, .ref aD), (3, .ref ao), (2, .ref (ad2 0 0)), (1, .ref (ad1 0 0)), (0, .ref b)] := hl
  obtain ⟨τ, hτ⟩ : ∃ z, z = ups σ 31 0 0 0 := ⟨_, rfl⟩
  have w1 : WP Dg ccnt ad1 (cE cA ad1 τ) H := by rw [hτ]; exact hW.tau
  obtain ⟨-, w2, hO, hD⟩ := hW
  have hvt : Inv N M τ := by rw [hτ]; exact Inv_o31 hv
  have h031 : τ 31 0 0 = 0 := by rw [hτ, ups_eq]
  refine lv_aload_n hx hb dL_law_1363 rfl (lv_at hl 4 rfl) ?_
  refine lv_aload_n hx hb dL_law_1364 rfl (lv_at hl 5 rfl) ?_
  refine lv_iload hx hb dL_law_1365 (lv_at hl 0 rfl) ?_
  refine k_iconst hC1 dL_law_1367 ?_
  refine k_iadd hC1 dL_law_1368 ?_
  refine l_sld hK hS (by omega) dL_law_1369 ?_
  refine lv_aload_n hx hb dL_law_1370 rfl (lv_at hl 5 rfl) ?_
  refine lv_iload hx hb dL_law_1371 (lv_at hl 0 rfl) ?_
  refine k_iconst hC1 dL_law_1373 ?_
  refine k_iadd hC1 dL_law_1374 ?_
  refine l_sld hK hS (by omega) dL_law_1375 ?_
  refine lv_aload_n hx hb dL_law_1376 rfl (lv_at hl 2 rfl) ?_
  refine l_callW (hh := [(0, 10, 13, 19)]) (As := [.ref (ad1 0 0), .int (zi (sx xs (i + 1))), .int (zi (sx xs (i + 2))), .ref ao]) (rest := []) hX1 hK2 hNc hgo hgD hl.1 (w_go hI1 hWN hfl τ (sx xs (i + 1)) (sx xs (i + 2)) hvt hN hM (sx_rng _ _) (sx_rng _ _) o d9) (vx_cwSW 4 hts gL_law_L_go rfl rfl rfl (by decide +kernel) ⟨Nat.le_of_ble_eq_true rfl, Nat.le_of_ble_eq_true rfl⟩) w1 hO hD hS hcs rfl rfl (Nat.le_of_ble_eq_true rfl) dL_law_1377 (fun H1 locs1 w1 hO hD hS hk => ?_)
  replace w2 := la_k2 hA w2 hk
  clear hk
  refine lv_istore (lv' := [(6, .int (zi (cd_go τ (sx xs (i + 1)) (sx xs (i + 2))))), (5, .int (zi i)), (4, .ref aD), (3, .ref ao), (2, .ref (ad2 0 0)), (1, .ref (ad1 0 0)), (0, .ref b)]) hx hb dL_law_1380 hl (by decide) rfl (fun ls hl => ?_)
  refine lv_aload_n hx hb dL_law_1382 rfl (lv_at hl 4 rfl) ?_
  refine lv_aload_n hx hb dL_law_1383 rfl (lv_at hl 6 rfl) ?_
  refine lv_iload hx hb dL_law_1384 (lv_at hl 1 rfl) ?_
  refine k_iconst hC1 dL_law_1386 ?_
  refine k_iadd hC1 dL_law_1387 ?_
  refine l_sld hK hS (by omega) dL_law_1388 ?_
  refine lv_aload_n hx hb dL_law_1389 rfl (lv_at hl 6 rfl) ?_
  refine lv_iload hx hb dL_law_1390 (lv_at hl 1 rfl) ?_
  refine k_iconst hC1 dL_law_1392 ?_
  refine k_iadd hC1 dL_law_1393 ?_
  refine l_sld hK hS (by omega) dL_law_1394 ?_
  refine k_callI (As := [.int (zi (sx xs (i + 1))), .int (zi (sx xs (i + 2)))]) (rest := []) hX2 hl.1 (q_go hI2 σ (sx xs (i + 1)) (sx xs (i + 2)) hτ hv hN hM (sx_rng _ _) (sx_rng _ _)) (cwV 2 hts gL_law_X8_go rfl rfl rfl (by decide +kernel) ⟨Nat.le_of_ble_eq_true rfl, Nat.le_of_ble_eq_true rfl⟩) (rc_M hC2 w2) w2 hS hcs rfl rfl (Nat.le_of_ble_eq_true rfl) dL_law_1395 (fun H2 locs2 w2 hS _ hk => ?_)
  replace w1 := la_k1 hA w1 hk
  replace hO := la_o hA hO hk
  replace hD := la_d hA hD hk
  clear hk
  refine lv_istore (lv' := [(7, .int (zi (bi (cd_go τ (sx xs (i + 1)) (sx xs (i + 2))) (τ 22 (sx xs (i + 1)) 0) 0))), (6, .int (zi (cd_go τ (sx xs (i + 1)) (sx xs (i + 2))))), (5, .int (zi i)), (4, .ref aD), (3, .ref ao), (2, .ref (ad2 0 0)), (1, .ref (ad1 0 0)), (0, .ref b)]) hx hb dL_law_1398 hl (by decide) rfl (fun ls hl => ?_)
  refine lv_aload_n hx hb dL_law_1400 rfl (lv_at hl 5 rfl) ?_
  refine k_callI (As := []) (rest := []) hX2 hl.1 (n_thrown hI2 (stp (cd_go τ (sx xs (i + 1)) (sx xs (i + 2))) (ups τ 22 (sx xs (i + 1)) 0 (sx xs (i + 2))) τ)) (cwV 0 hts gL_law_X8_thrown rfl rfl rfl (by decide +kernel) ⟨Nat.le_of_ble_eq_true rfl, Nat.le_of_ble_eq_true rfl⟩) (rc_M hC2 w2) w2 hS hcs rfl rfl (Nat.le_of_ble_eq_true rfl) dL_law_1401 (fun H3 locs3 w2 hS _ hk => ?_)
  replace w1 := la_k1 hA w1 hk
  replace hO := la_o hA hO hk
  replace hD := la_d hA hD hk
  clear hk
  obtain ⟨hv', h31⟩ := iv_go (sx xs (i + 1)) (sx xs (i + 2)) hvt hM.1 h031 (sx_rng _ _) (sx_rng _ _)
  refine k_top0 h31 ?_
  have hcd := cdr_go τ (sx xs (i + 1)) (sx xs (i + 2))
  refine lv_iload hx hb dL_law_1404 (lv_at hl 1 rfl) ?_
  refine k_icmp_eq (tgt := 1411) hC1 dL_law_1406 (by decide) ⟨⟨by omega, by omega⟩, ⟨by omega, by omega⟩⟩ (fun _ => ?_) (fun z => absurd rfl z)
  refine lv_iload hx hb dL_law_1411 (lv_at hl 1 rfl) ?_
  refine k_if_ne (tgt := 1428) hC1 dL_law_1413 (by decide) ⟨by omega, by omega⟩ (fun z => ?_) (fun z => ?_)
  · refine lv_goto (tgt := 1722) hx hb dL_law_1428 (by decide) ?_
    exact kk _ _ _ _ _ _ hv' ⟨w1, w2, hO, hD⟩ hS (lw_sub hl (fun q hq => List.mem_cons_of_mem _ (List.mem_cons_of_mem _ hq)))
  · refine lv_aload_n hx hb dL_law_1416 rfl (lv_at hl 4 rfl) ?_
    refine k_iconst hC1 dL_law_1417 ?_
    refine l_lald hx hb hK2 hO dL_law_1418 ?_
    refine lv_iload hx hb dL_law_1419 (lv_at hl 0 rfl) ?_
    refine lv_i2l hx hb dL_law_1421 rfl ?_
    refine l_lcmp hx hb (by rw [z, bx_0, bi_0]) dL_law_1422 ?_
    refine k_if_eq (tgt := 1428) hC1 dL_law_1423 (by decide) (by decide) (fun _ => ?_) (fun c9 => absurd rfl c9)
    refine lv_goto (tgt := 1722) hx hb dL_law_1428 (by decide) ?_
    exact kk _ _ _ _ _ _ hv' ⟨w1, w2, hO, hD⟩ hS (lw_sub hl (fun q hq => List.mem_cons_of_mem _ (List.mem_cons_of_mem _ hq)))
set_option maxHeartbeats 2000000 in
set_option maxRecDepth 100000 in
theorem lc_ask {p : Program} {l : Launch} {e : Env} {s : State} {m : MethodId} {below : List Frame} {meth : Method} {c : Code} {H : Heap} {locs : List Loc} {cells slots : Nat} {Q : State → Prop} {ls : Array Slot} {Dg : va_G} {cA : Nat → ClassId} {cL cD : ClassId} {ad1 ad2 : Nat → Int → Nat} {oc : Nat → Nat} {ao aD b L : Nat} {xs : Nat → Int32} {o : Int64} {d9 : UInt64} {σ : St} {N M i : Int} (hK : LK p l c s m meth b L xs Dg cA cL cD oc) (hA : LA ad1 ad2 ao aD s.heap.size) (hv : Inv N M σ) (hN : N ≤ 1000000) (hM : 0 ≤ M ∧ M ≤ 1000000) (hi : 0 ≤ i ∧ i + 5 ≤ L) (hcs : cells + 1 ≤ 603072 ∧ slots + 6 ≤ 7211114) (hW : LW Dg cA cL cD ad1 ad2 ao aD σ o d9 H) (hS : va_S (NA s.heap.size) s.heap H locs) (hl : lv_has ls 10 (lvL ad1 ad2 ao aD b i))
    (kk : ∀ (σ' : St) (o' : Int64) (d' : UInt64) (H1 : Heap) (locs1 : List Loc) (ls1 : Array Slot), Inv (N + 1) (M + 300) σ' → LW Dg cA cL cD ad1 ad2 ao aD σ' o' d' H1 → va_S (NA s.heap.size) s.heap H1 locs1 → lv_has ls1 10 (lvL ad1 ad2 ao aD b i) → W p l e room_1 s m #[Value.ref b] below meth c H1 locs1 (cells + 1) (slots + 6) Q (F0 m 1722 ls1 [])) : W p l e room_1 s m #[Value.ref b] below meth c H locs cells slots Q (F0 m 1431 ls []) := by
  have hX0 := hK.1
  obtain ⟨hI1, hI2, hWN, -, -, hg1, hg2, hgo, hgD⟩ := id hA
  have hX1 := kx_any hX0 hI1 hg1
  have hX2 := kx_any hX0 hI2 hg2
  have hC1 := hX1.1
  have hC2 := hX2.1
  have hx := hC1.1
  have hb := hC1.2.1
  have hts := hC1.2.2.2.1
  have hK2 := hK.2.1
  have hNc := hK.2.2.1
  have hfl := hK.2.2.2.2.2.1
  have hcs2 : cells ≤ 603072 ∧ slots ≤ 7211114 := by omega
  have hl : lv_has ls 10 [(5, .int (zi i)), (4, .ref aD), (3, .ref ao), (2, .ref (ad2 0 0)), (1, .ref (ad1 0 0)), (0, .ref b)] := hl
  obtain ⟨τ, hτ⟩ : ∃ z, z = ups σ 31 0 0 0 := ⟨_, rfl⟩
  have w1 : WP Dg ccnt ad1 (cE cA ad1 τ) H := by rw [hτ]; exact hW.tau
  obtain ⟨-, w2, hO, hD⟩ := hW
  have hvt : Inv N M τ := by rw [hτ]; exact Inv_o31 hv
  have h031 : τ 31 0 0 = 0 := by rw [hτ, ups_eq]
  refine lv_aload_n hx hb dL_law_1431 rfl (lv_at hl 4 rfl) ?_
  refine lv_aload_n hx hb dL_law_1432 rfl (lv_at hl 5 rfl) ?_
  refine lv_iload hx hb dL_law_1433 (lv_at hl 0 rfl) ?_
  refine k_iconst hC1 dL_law_1435 ?_
  refine k_iadd hC1 dL_law_1436 ?_
  refine l_sld hK hS (by omega) dL_law_1437 ?_
  refine lv_aload_n hx hb dL_law_1438 rfl (lv_at hl 5 rfl) ?_
  refine lv_iload hx hb dL_law_1439 (lv_at hl 0 rfl) ?_
  refine k_iconst hC1 dL_law_1441 ?_
  refine k_iadd hC1 dL_law_1442 ?_
  refine l_sld hK hS (by omega) dL_law_1443 ?_
  refine lv_aload_n hx hb dL_law_1444 rfl (lv_at hl 2 rfl) ?_
  refine l_callW (hh := [(0, 17, 20, 19), (0, 17, 24, 21)]) (As := [.ref (ad1 0 0), .int (zi (sx xs (i + 1))), .int (zi (sx xs (i + 2))), .ref ao]) (rest := []) hX1 hK2 hNc hgo hgD hl.1 (w_ask hI1 hWN hfl τ (sx xs (i + 1)) (sx xs (i + 2)) hvt hN hM (sx_rng _ _) (sx_rng _ _) o d9) (vx_cwSW 4 hts gL_law_L_ask rfl rfl rfl (by decide +kernel) ⟨Nat.le_of_ble_eq_true rfl, Nat.le_of_ble_eq_true rfl⟩) w1 hO hD hS hcs rfl rfl (Nat.le_of_ble_eq_true rfl) dL_law_1445 (fun H1 locs1 w1 hO hD hS hk => ?_)
  replace w2 := la_k2 hA w2 hk
  clear hk
  refine lv_istore (lv' := [(6, .int (zi (cd_ask τ (sx xs (i + 1)) (sx xs (i + 2))))), (5, .int (zi i)), (4, .ref aD), (3, .ref ao), (2, .ref (ad2 0 0)), (1, .ref (ad1 0 0)), (0, .ref b)]) hx hb dL_law_1448 hl (by decide) rfl (fun ls hl => ?_)
  refine lv_aload_n hx hb dL_law_1450 rfl (lv_at hl 4 rfl) ?_
  refine lv_aload_n hx hb dL_law_1451 rfl (lv_at hl 6 rfl) ?_
  refine lv_iload hx hb dL_law_1452 (lv_at hl 1 rfl) ?_
  refine k_iconst hC1 dL_law_1454 ?_
  refine k_iadd hC1 dL_law_1455 ?_
  refine l_sld hK hS (by omega) dL_law_1456 ?_
  refine lv_aload_n hx hb dL_law_1457 rfl (lv_at hl 6 rfl) ?_
  refine lv_iload hx hb dL_law_1458 (lv_at hl 1 rfl) ?_
  refine k_iconst hC1 dL_law_1460 ?_
  refine k_iadd hC1 dL_law_1461 ?_
  refine l_sld hK hS (by omega) dL_law_1462 ?_
  refine k_callI (As := [.int (zi (sx xs (i + 1))), .int (zi (sx xs (i + 2)))]) (rest := []) hX2 hl.1 (q_ask hI2 σ (sx xs (i + 1)) (sx xs (i + 2)) hτ hv hN hM (sx_rng _ _) (sx_rng _ _)) (cwV 2 hts gL_law_X8_ask rfl rfl rfl (by decide +kernel) ⟨Nat.le_of_ble_eq_true rfl, Nat.le_of_ble_eq_true rfl⟩) (rc_M hC2 w2) w2 hS hcs rfl rfl (Nat.le_of_ble_eq_true rfl) dL_law_1463 (fun H2 locs2 w2 hS _ hk => ?_)
  replace w1 := la_k1 hA w1 hk
  replace hO := la_o hA hO hk
  replace hD := la_d hA hD hk
  clear hk
  refine lv_istore (lv' := [(7, .int (zi (bi (cd_ask τ (sx xs (i + 1)) (sx xs (i + 2))) (if 0 < τ 19 (sx xs (i + 1)) (sx xs (i + 2)) then 1 else 0) 0))), (6, .int (zi (cd_ask τ (sx xs (i + 1)) (sx xs (i + 2))))), (5, .int (zi i)), (4, .ref aD), (3, .ref ao), (2, .ref (ad2 0 0)), (1, .ref (ad1 0 0)), (0, .ref b)]) hx hb dL_law_1466 hl (by decide) rfl (fun ls hl => ?_)
  refine lv_aload_n hx hb dL_law_1468 rfl (lv_at hl 5 rfl) ?_
  refine k_callI (As := []) (rest := []) hX2 hl.1 (n_thrown hI2 (stp (cd_ask τ (sx xs (i + 1)) (sx xs (i + 2))) (ups (ups τ 21 (sx xs (i + 1)) (sx xs (i + 2)) 1) 20 (sx xs (i + 1)) (sx xs (i + 2)) (τ 20 (sx xs (i + 1)) (sx xs (i + 2)) + 1)) τ)) (cwV 0 hts gL_law_X8_thrown rfl rfl rfl (by decide +kernel) ⟨Nat.le_of_ble_eq_true rfl, Nat.le_of_ble_eq_true rfl⟩) (rc_M hC2 w2) w2 hS hcs rfl rfl (Nat.le_of_ble_eq_true rfl) dL_law_1469 (fun H3 locs3 w2 hS _ hk => ?_)
  replace w1 := la_k1 hA w1 hk
  replace hO := la_o hA hO hk
  replace hD := la_d hA hD hk
  clear hk
  obtain ⟨hv', h31⟩ := iv_ask (sx xs (i + 1)) (sx xs (i + 2)) hvt hM.1 h031 (sx_rng _ _) (sx_rng _ _)
  refine k_top0 h31 ?_
  have hcd := cdr_ask τ (sx xs (i + 1)) (sx xs (i + 2))
  refine lv_iload hx hb dL_law_1472 (lv_at hl 1 rfl) ?_
  refine k_icmp_eq (tgt := 1479) hC1 dL_law_1474 (by decide) ⟨⟨by omega, by omega⟩, ⟨by omega, by omega⟩⟩ (fun _ => ?_) (fun z => absurd rfl z)
  refine lv_iload hx hb dL_law_1479 (lv_at hl 1 rfl) ?_
  refine k_if_ne (tgt := 1503) hC1 dL_law_1481 (by decide) ⟨by omega, by omega⟩ (fun z => ?_) (fun z => ?_)
  · refine lv_goto (tgt := 1722) hx hb dL_law_1503 (by decide) ?_
    exact kk _ _ _ _ _ _ hv' ⟨w1, w2, hO, hD⟩ hS (lw_sub hl (fun q hq => List.mem_cons_of_mem _ (List.mem_cons_of_mem _ hq)))
  · refine lv_aload_n hx hb dL_law_1484 rfl (lv_at hl 4 rfl) ?_
    refine k_iconst hC1 dL_law_1485 ?_
    refine l_lald hx hb hK2 hO dL_law_1486 ?_
    refine lv_iload hx hb dL_law_1487 (lv_at hl 0 rfl) ?_
    by_cases zc : 0 < τ 19 (sx xs (i + 1)) (sx xs (i + 2))
    · refine k_top0 (show (bi (cd_ask τ (sx xs (i + 1)) (sx xs (i + 2))) (if 0 < τ 19 (sx xs (i + 1)) (sx xs (i + 2)) then 1 else 0) 0) = 1 by rw [z, bi_0, if_pos zc]) ?_
      refine k_if_eq (tgt := 1496) hC1 dL_law_1489 (by decide) (by decide) (fun c9 => absurd c9 (by decide)) (fun _ => ?_)
      refine lv_lconst (v := 1) hx hb dL_law_1492 (by decide) ?_
      refine lv_goto (tgt := 1497) hx hb dL_law_1493 (by decide) ?_
      refine l_lcmp hx hb (by rw [z, bx_0, if_pos zc]; decide) dL_law_1497 ?_
      refine k_if_eq (tgt := 1503) hC1 dL_law_1498 (by decide) (by decide) (fun _ => ?_) (fun c9 => absurd rfl c9)
      refine lv_goto (tgt := 1722) hx hb dL_law_1503 (by decide) ?_
      exact kk _ _ _ _ _ _ hv' ⟨w1, w2, hO, hD⟩ hS (lw_sub hl (fun q hq => List.mem_cons_of_mem _ (List.mem_cons_of_mem _ hq)))
    · refine k_top0 (show (bi (cd_ask τ (sx xs (i + 1)) (sx xs (i + 2))) (if 0 < τ 19 (sx xs (i + 1)) (sx xs (i + 2)) then 1 else 0) 0) = 0 by rw [z, bi_0, if_neg zc]) ?_
      refine k_if_eq (tgt := 1496) hC1 dL_law_1489 (by decide) (by decide) (fun _ => ?_) (fun c9 => absurd rfl c9)
      refine lv_lconst (v := 0) hx hb dL_law_1496 (by decide) ?_
      refine l_lcmp hx hb (by rw [z, bx_0, if_neg zc]; decide) dL_law_1497 ?_
      refine k_if_eq (tgt := 1503) hC1 dL_law_1498 (by decide) (by decide) (fun _ => ?_) (fun c9 => absurd rfl c9)
      refine lv_goto (tgt := 1722) hx hb dL_law_1503 (by decide) ?_
      exact kk _ _ _ _ _ _ hv' ⟨w1, w2, hO, hD⟩ hS (lw_sub hl (fun q hq => List.mem_cons_of_mem _ (List.mem_cons_of_mem _ hq)))
set_option maxHeartbeats 2000000 in
set_option maxRecDepth 100000 in
theorem lc_saw {p : Program} {l : Launch} {e : Env} {s : State} {m : MethodId} {below : List Frame} {meth : Method} {c : Code} {H : Heap} {locs : List Loc} {cells slots : Nat} {Q : State → Prop} {ls : Array Slot} {Dg : va_G} {cA : Nat → ClassId} {cL cD : ClassId} {ad1 ad2 : Nat → Int → Nat} {oc : Nat → Nat} {ao aD b L : Nat} {xs : Nat → Int32} {o : Int64} {d9 : UInt64} {σ : St} {N M i : Int} (hK : LK p l c s m meth b L xs Dg cA cL cD oc) (hA : LA ad1 ad2 ao aD s.heap.size) (hv : Inv N M σ) (hN : N ≤ 1000000) (hM : 0 ≤ M ∧ M ≤ 1000000) (hi : 0 ≤ i ∧ i + 5 ≤ L) (hcs : cells + 1 ≤ 603072 ∧ slots + 6 ≤ 7211114) (hW : LW Dg cA cL cD ad1 ad2 ao aD σ o d9 H) (hS : va_S (NA s.heap.size) s.heap H locs) (hl : lv_has ls 10 (lvL ad1 ad2 ao aD b i))
    (kk : ∀ (σ' : St) (o' : Int64) (d' : UInt64) (H1 : Heap) (locs1 : List Loc) (ls1 : Array Slot), Inv (N + 1) (M + 300) σ' → LW Dg cA cL cD ad1 ad2 ao aD σ' o' d' H1 → va_S (NA s.heap.size) s.heap H1 locs1 → lv_has ls1 10 (lvL ad1 ad2 ao aD b i) → W p l e room_1 s m #[Value.ref b] below meth c H1 locs1 (cells + 1) (slots + 6) Q (F0 m 1722 ls1 [])) : W p l e room_1 s m #[Value.ref b] below meth c H locs cells slots Q (F0 m 1506 ls []) := by
  have hX0 := hK.1
  obtain ⟨hI1, hI2, hWN, -, -, hg1, hg2, hgo, hgD⟩ := id hA
  have hX1 := kx_any hX0 hI1 hg1
  have hX2 := kx_any hX0 hI2 hg2
  have hC1 := hX1.1
  have hC2 := hX2.1
  have hx := hC1.1
  have hb := hC1.2.1
  have hts := hC1.2.2.2.1
  have hK2 := hK.2.1
  have hNc := hK.2.2.1
  have hfl := hK.2.2.2.2.2.1
  have hcs2 : cells ≤ 603072 ∧ slots ≤ 7211114 := by omega
  have hl : lv_has ls 10 [(5, .int (zi i)), (4, .ref aD), (3, .ref ao), (2, .ref (ad2 0 0)), (1, .ref (ad1 0 0)), (0, .ref b)] := hl
  obtain ⟨τ, hτ⟩ : ∃ z, z = ups σ 31 0 0 0 := ⟨_, rfl⟩
  have w1 : WP Dg ccnt ad1 (cE cA ad1 τ) H := by rw [hτ]; exact hW.tau
  obtain ⟨-, w2, hO, hD⟩ := hW
  have hvt : Inv N M τ := by rw [hτ]; exact Inv_o31 hv
  have h031 : τ 31 0 0 = 0 := by rw [hτ, ups_eq]
  refine lv_aload_n hx hb dL_law_1506 rfl (lv_at hl 4 rfl) ?_
  refine lv_aload_n hx hb dL_law_1507 rfl (lv_at hl 5 rfl) ?_
  refine lv_iload hx hb dL_law_1508 (lv_at hl 0 rfl) ?_
  refine k_iconst hC1 dL_law_1510 ?_
  refine k_iadd hC1 dL_law_1511 ?_
  refine l_sld hK hS (by omega) dL_law_1512 ?_
  refine lv_aload_n hx hb dL_law_1513 rfl (lv_at hl 5 rfl) ?_
  refine lv_iload hx hb dL_law_1514 (lv_at hl 0 rfl) ?_
  refine k_iconst hC1 dL_law_1516 ?_
  refine k_iadd hC1 dL_law_1517 ?_
  refine l_sld hK hS (by omega) dL_law_1518 ?_
  refine lv_aload_n hx hb dL_law_1519 rfl (lv_at hl 2 rfl) ?_
  refine l_callW (hh := [(0, 10, 13, 19), (0, 10, 17, 21)]) (As := [.ref (ad1 0 0), .int (zi (sx xs (i + 1))), .int (zi (sx xs (i + 2))), .ref ao]) (rest := []) hX1 hK2 hNc hgo hgD hl.1 (w_saw hI1 hWN hfl τ (sx xs (i + 1)) (sx xs (i + 2)) hvt hN hM (sx_rng _ _) (sx_rng _ _) o d9) (vx_cwSW 4 hts gL_law_L_saw rfl rfl rfl (by decide +kernel) ⟨Nat.le_of_ble_eq_true rfl, Nat.le_of_ble_eq_true rfl⟩) w1 hO hD hS hcs rfl rfl (Nat.le_of_ble_eq_true rfl) dL_law_1520 (fun H1 locs1 w1 hO hD hS hk => ?_)
  replace w2 := la_k2 hA w2 hk
  clear hk
  refine lv_istore (lv' := [(6, .int (zi (cd_saw τ (sx xs (i + 1)) (sx xs (i + 2))))), (5, .int (zi i)), (4, .ref aD), (3, .ref ao), (2, .ref (ad2 0 0)), (1, .ref (ad1 0 0)), (0, .ref b)]) hx hb dL_law_1523 hl (by decide) rfl (fun ls hl => ?_)
  refine lv_aload_n hx hb dL_law_1525 rfl (lv_at hl 4 rfl) ?_
  refine lv_aload_n hx hb dL_law_1526 rfl (lv_at hl 6 rfl) ?_
  refine lv_iload hx hb dL_law_1527 (lv_at hl 1 rfl) ?_
  refine k_iconst hC1 dL_law_1529 ?_
  refine k_iadd hC1 dL_law_1530 ?_
  refine l_sld hK hS (by omega) dL_law_1531 ?_
  refine lv_aload_n hx hb dL_law_1532 rfl (lv_at hl 6 rfl) ?_
  refine lv_iload hx hb dL_law_1533 (lv_at hl 1 rfl) ?_
  refine k_iconst hC1 dL_law_1535 ?_
  refine k_iadd hC1 dL_law_1536 ?_
  refine l_sld hK hS (by omega) dL_law_1537 ?_
  refine k_callI (As := [.int (zi (sx xs (i + 1))), .int (zi (sx xs (i + 2)))]) (rest := []) hX2 hl.1 (q_saw hI2 σ (sx xs (i + 1)) (sx xs (i + 2)) hτ hv hN hM (sx_rng _ _) (sx_rng _ _)) (cwV 2 hts gL_law_X8_saw rfl rfl rfl (by decide +kernel) ⟨Nat.le_of_ble_eq_true rfl, Nat.le_of_ble_eq_true rfl⟩) (rc_M hC2 w2) w2 hS hcs rfl rfl (Nat.le_of_ble_eq_true rfl) dL_law_1538 (fun H2 locs2 w2 hS _ hk => ?_)
  replace w1 := la_k1 hA w1 hk
  replace hO := la_o hA hO hk
  replace hD := la_d hA hD hk
  clear hk
  refine lv_istore (lv' := [(7, .int (zi (bi (cd_saw τ (sx xs (i + 1)) (sx xs (i + 2))) (τ 19 (sx xs (i + 1)) (sx xs (i + 2))) 0))), (6, .int (zi (cd_saw τ (sx xs (i + 1)) (sx xs (i + 2))))), (5, .int (zi i)), (4, .ref aD), (3, .ref ao), (2, .ref (ad2 0 0)), (1, .ref (ad1 0 0)), (0, .ref b)]) hx hb dL_law_1541 hl (by decide) rfl (fun ls hl => ?_)
  refine lv_aload_n hx hb dL_law_1543 rfl (lv_at hl 5 rfl) ?_
  refine k_callI (As := []) (rest := []) hX2 hl.1 (n_thrown hI2 (stp (cd_saw τ (sx xs (i + 1)) (sx xs (i + 2))) τ τ)) (cwV 0 hts gL_law_X8_thrown rfl rfl rfl (by decide +kernel) ⟨Nat.le_of_ble_eq_true rfl, Nat.le_of_ble_eq_true rfl⟩) (rc_M hC2 w2) w2 hS hcs rfl rfl (Nat.le_of_ble_eq_true rfl) dL_law_1544 (fun H3 locs3 w2 hS _ hk => ?_)
  replace w1 := la_k1 hA w1 hk
  replace hO := la_o hA hO hk
  replace hD := la_d hA hD hk
  clear hk
  obtain ⟨hv', h31⟩ := iv_saw (sx xs (i + 1)) (sx xs (i + 2)) hvt hM.1 h031 (sx_rng _ _) (sx_rng _ _)
  refine k_top0 h31 ?_
  have hcd := cdr_saw τ (sx xs (i + 1)) (sx xs (i + 2))
  refine lv_iload hx hb dL_law_1547 (lv_at hl 1 rfl) ?_
  refine k_icmp_eq (tgt := 1554) hC1 dL_law_1549 (by decide) ⟨⟨by omega, by omega⟩, ⟨by omega, by omega⟩⟩ (fun _ => ?_) (fun z => absurd rfl z)
  refine lv_iload hx hb dL_law_1554 (lv_at hl 1 rfl) ?_
  refine k_if_ne (tgt := 1571) hC1 dL_law_1556 (by decide) ⟨by omega, by omega⟩ (fun z => ?_) (fun z => ?_)
  · refine lv_goto (tgt := 1722) hx hb dL_law_1571 (by decide) ?_
    exact kk _ _ _ _ _ _ hv' ⟨w1, w2, hO, hD⟩ hS (lw_sub hl (fun q hq => List.mem_cons_of_mem _ (List.mem_cons_of_mem _ hq)))
  · refine lv_aload_n hx hb dL_law_1559 rfl (lv_at hl 4 rfl) ?_
    refine k_iconst hC1 dL_law_1560 ?_
    refine l_lald hx hb hK2 hO dL_law_1561 ?_
    refine lv_iload hx hb dL_law_1562 (lv_at hl 0 rfl) ?_
    refine lv_i2l hx hb dL_law_1564 rfl ?_
    refine l_lcmp hx hb (by rw [z, bx_0, bi_0]) dL_law_1565 ?_
    refine k_if_eq (tgt := 1571) hC1 dL_law_1566 (by decide) (by decide) (fun _ => ?_) (fun c9 => absurd rfl c9)
    refine lv_goto (tgt := 1722) hx hb dL_law_1571 (by decide) ?_
    exact kk _ _ _ _ _ _ hv' ⟨w1, w2, hO, hD⟩ hS (lw_sub hl (fun q hq => List.mem_cons_of_mem _ (List.mem_cons_of_mem _ hq)))
set_option maxHeartbeats 2000000 in
set_option maxRecDepth 100000 in
theorem lc_done {p : Program} {l : Launch} {e : Env} {s : State} {m : MethodId} {below : List Frame} {meth : Method} {c : Code} {H : Heap} {locs : List Loc} {cells slots : Nat} {Q : State → Prop} {ls : Array Slot} {Dg : va_G} {cA : Nat → ClassId} {cL cD : ClassId} {ad1 ad2 : Nat → Int → Nat} {oc : Nat → Nat} {ao aD b L : Nat} {xs : Nat → Int32} {o : Int64} {d9 : UInt64} {σ : St} {N M i : Int} (hK : LK p l c s m meth b L xs Dg cA cL cD oc) (hA : LA ad1 ad2 ao aD s.heap.size) (hv : Inv N M σ) (hN : N ≤ 1000000) (hM : 0 ≤ M ∧ M ≤ 1000000) (hi : 0 ≤ i ∧ i + 5 ≤ L) (hcs : cells + 1 ≤ 603072 ∧ slots + 6 ≤ 7211114) (hW : LW Dg cA cL cD ad1 ad2 ao aD σ o d9 H) (hS : va_S (NA s.heap.size) s.heap H locs) (hl : lv_has ls 10 (lvL ad1 ad2 ao aD b i))
    (kk : ∀ (σ' : St) (o' : Int64) (d' : UInt64) (H1 : Heap) (locs1 : List Loc) (ls1 : Array Slot), Inv (N + 1) (M + 300) σ' → LW Dg cA cL cD ad1 ad2 ao aD σ' o' d' H1 → va_S (NA s.heap.size) s.heap H1 locs1 → lv_has ls1 10 (lvL ad1 ad2 ao aD b i) → W p l e room_1 s m #[Value.ref b] below meth c H1 locs1 (cells + 1) (slots + 6) Q (F0 m 1722 ls1 [])) : W p l e room_1 s m #[Value.ref b] below meth c H locs cells slots Q (F0 m 1574 ls []) := by
  have hX0 := hK.1
  obtain ⟨hI1, hI2, hWN, -, -, hg1, hg2, hgo, hgD⟩ := id hA
  have hX1 := kx_any hX0 hI1 hg1
  have hX2 := kx_any hX0 hI2 hg2
  have hC1 := hX1.1
  have hC2 := hX2.1
  have hx := hC1.1
  have hb := hC1.2.1
  have hts := hC1.2.2.2.1
  have hK2 := hK.2.1
  have hNc := hK.2.2.1
  have hfl := hK.2.2.2.2.2.1
  have hcs2 : cells ≤ 603072 ∧ slots ≤ 7211114 := by omega
  have hl : lv_has ls 10 [(5, .int (zi i)), (4, .ref aD), (3, .ref ao), (2, .ref (ad2 0 0)), (1, .ref (ad1 0 0)), (0, .ref b)] := hl
  obtain ⟨τ, hτ⟩ : ∃ z, z = ups σ 31 0 0 0 := ⟨_, rfl⟩
  have w1 : WP Dg ccnt ad1 (cE cA ad1 τ) H := by rw [hτ]; exact hW.tau
  obtain ⟨-, w2, hO, hD⟩ := hW
  have hvt : Inv N M τ := by rw [hτ]; exact Inv_o31 hv
  have h031 : τ 31 0 0 = 0 := by rw [hτ, ups_eq]
  have hv' : Inv (N + 1) (M + 300) τ := Inv_mono hvt (by omega) (by omega)
  have hs6 := six_held τ
  refine lv_aload_n hx hb dL_law_1574 rfl (lv_at hl 4 rfl) ?_
  refine k_callL (As := []) (rest := []) hX1 hl.1 (m_done hI1 τ) (cwV 0 hts gL_law_X7_done rfl rfl rfl (by decide +kernel) ⟨Nat.le_of_ble_eq_true rfl, Nat.le_of_ble_eq_true rfl⟩) (rc_KR hC1 w1) w1 hS hcs2 rfl rfl (Nat.le_of_ble_eq_true rfl) dL_law_1575 (fun H1 locs1 w1 hS _ hk => ?_)
  replace w2 := la_k2' hA w2 hk
  replace hO := la_o' hA hO hk
  replace hD := la_d' hA hD hk
  clear hk
  refine lv_aload_n hx hb dL_law_1578 rfl (lv_at hl 3 rfl) ?_
  refine k_callL (As := []) (rest := [.long (zl (τ 29 0 0))]) hX2 hl.1 (n_done hI2 σ hτ) (cwV 0 hts gL_law_X8_done rfl rfl rfl (by decide +kernel) ⟨Nat.le_of_ble_eq_true rfl, Nat.le_of_ble_eq_true rfl⟩) (rc_M hC2 w2) w2 hS hcs2 rfl rfl (Nat.le_of_ble_eq_true rfl) dL_law_1579 (fun H2 locs2 w2 hS _ hk => ?_)
  replace w1 := la_k1 hA w1 hk
  replace hO := la_o hA hO hk
  replace hD := la_d hA hD hk
  clear hk
  refine l_lcmp hx hb rfl dL_law_1582 ?_
  refine k_if_eq (tgt := 1722) hC1 dL_law_1583 (by decide) (by decide) (fun _ => ?_) (fun c9 => absurd rfl c9)
  refine W.widen (k := cells + 1) (n := slots + 6) (by omega) (by omega) ?_
  exact kk _ _ _ _ _ _ hv' ⟨w1, w2, hO, hD⟩ hS (lw_sub hl (fun q hq => hq))
set_option maxHeartbeats 2000000 in
set_option maxRecDepth 100000 in
theorem lc_heldShare {p : Program} {l : Launch} {e : Env} {s : State} {m : MethodId} {below : List Frame} {meth : Method} {c : Code} {H : Heap} {locs : List Loc} {cells slots : Nat} {Q : State → Prop} {ls : Array Slot} {Dg : va_G} {cA : Nat → ClassId} {cL cD : ClassId} {ad1 ad2 : Nat → Int → Nat} {oc : Nat → Nat} {ao aD b L : Nat} {xs : Nat → Int32} {o : Int64} {d9 : UInt64} {σ : St} {N M i : Int} (hK : LK p l c s m meth b L xs Dg cA cL cD oc) (hA : LA ad1 ad2 ao aD s.heap.size) (hv : Inv N M σ) (hN : N ≤ 1000000) (hM : 0 ≤ M ∧ M ≤ 1000000) (hi : 0 ≤ i ∧ i + 5 ≤ L) (hcs : cells + 1 ≤ 603072 ∧ slots + 6 ≤ 7211114) (hW : LW Dg cA cL cD ad1 ad2 ao aD σ o d9 H) (hS : va_S (NA s.heap.size) s.heap H locs) (hl : lv_has ls 10 (lvL ad1 ad2 ao aD b i))
    (kk : ∀ (σ' : St) (o' : Int64) (d' : UInt64) (H1 : Heap) (locs1 : List Loc) (ls1 : Array Slot), Inv (N + 1) (M + 300) σ' → LW Dg cA cL cD ad1 ad2 ao aD σ' o' d' H1 → va_S (NA s.heap.size) s.heap H1 locs1 → lv_has ls1 10 (lvL ad1 ad2 ao aD b i) → W p l e room_1 s m #[Value.ref b] below meth c H1 locs1 (cells + 1) (slots + 6) Q (F0 m 1722 ls1 [])) : W p l e room_1 s m #[Value.ref b] below meth c H locs cells slots Q (F0 m 1588 ls []) := by
  have hX0 := hK.1
  obtain ⟨hI1, hI2, hWN, -, -, hg1, hg2, hgo, hgD⟩ := id hA
  have hX1 := kx_any hX0 hI1 hg1
  have hX2 := kx_any hX0 hI2 hg2
  have hC1 := hX1.1
  have hC2 := hX2.1
  have hx := hC1.1
  have hb := hC1.2.1
  have hts := hC1.2.2.2.1
  have hK2 := hK.2.1
  have hNc := hK.2.2.1
  have hfl := hK.2.2.2.2.2.1
  have hcs2 : cells ≤ 603072 ∧ slots ≤ 7211114 := by omega
  have hl : lv_has ls 10 [(5, .int (zi i)), (4, .ref aD), (3, .ref ao), (2, .ref (ad2 0 0)), (1, .ref (ad1 0 0)), (0, .ref b)] := hl
  obtain ⟨τ, hτ⟩ : ∃ z, z = ups σ 31 0 0 0 := ⟨_, rfl⟩
  have w1 : WP Dg ccnt ad1 (cE cA ad1 τ) H := by rw [hτ]; exact hW.tau
  obtain ⟨-, w2, hO, hD⟩ := hW
  have hvt : Inv N M τ := by rw [hτ]; exact Inv_o31 hv
  have h031 : τ 31 0 0 = 0 := by rw [hτ, ups_eq]
  have hv' : Inv (N + 1) (M + 300) τ := Inv_mono hvt (by omega) (by omega)
  have hs6 := six_held τ
  refine lv_aload_n hx hb dL_law_1588 rfl (lv_at hl 4 rfl) ?_
  refine k_callF (As := []) (rest := []) hX1 hl.1 (m_heldShare hI1 τ hvt) (cwV 0 hts gL_law_X7_heldShare rfl rfl rfl (by decide +kernel) ⟨Nat.le_of_ble_eq_true rfl, Nat.le_of_ble_eq_true rfl⟩) (rc_KR hC1 w1) w1 hS hcs2 rfl rfl (Nat.le_of_ble_eq_true rfl) dL_law_1589 (fun H1 locs1 w1 hS _ hk => ?_)
  replace w2 := la_k2' hA w2 hk
  replace hO := la_o' hA hO hk
  replace hD := la_d' hA hD hk
  clear hk
  refine lv_f2d hx hb dL_law_1592 (hsB_d hs6) ?_
  refine lv_dstore (lv' := [(6, .double (FP.f2d (hsB (6 - held τ (-1))))), (5, .int (zi i)), (4, .ref aD), (3, .ref ao), (2, .ref (ad2 0 0)), (1, .ref (ad1 0 0)), (0, .ref b)]) hx hb dL_law_1593 hl (by decide) rfl (fun ls hl => ?_)
  refine lv_aload_n hx hb dL_law_1595 rfl (lv_at hl 4 rfl) ?_
  refine k_callF (As := []) (rest := []) hX2 hl.1 (n_heldShare hI2 σ hτ hvt) (cwV 0 hts gL_law_X8_heldShare rfl rfl rfl (by decide +kernel) ⟨Nat.le_of_ble_eq_true rfl, Nat.le_of_ble_eq_true rfl⟩) (rc_M hC2 w2) w2 hS hcs2 rfl rfl (Nat.le_of_ble_eq_true rfl) dL_law_1596 (fun H2 locs2 w2 hS _ hk => ?_)
  replace w1 := la_k1 hA w1 hk
  replace hO := la_o hA hO hk
  replace hD := la_d hA hD hk
  clear hk
  refine lv_f2d hx hb dL_law_1599 (hsB_d hs6) ?_
  refine lv_dstore (lv' := [(8, .double (FP.f2d (hsB (6 - held τ (-1))))), (6, .double (FP.f2d (hsB (6 - held τ (-1))))), (5, .int (zi i)), (4, .ref aD), (3, .ref ao), (2, .ref (ad2 0 0)), (1, .ref (ad1 0 0)), (0, .ref b)]) hx hb dL_law_1600 hl (by decide) rfl (fun ls hl => ?_)
  refine lv_dload hx hb dL_law_1602 (lv_at hl 1 rfl) ?_
  refine lv_dload hx hb dL_law_1604 (lv_at hl 0 rfl) ?_
  refine l_dcmp hx hb (hsB_dcmp hs6) dL_law_1606 ?_
  refine k_if_eq (tgt := 1628) hC1 dL_law_1607 (by decide) (by decide) (fun _ => ?_) (fun c9 => absurd rfl c9)
  refine lv_goto (tgt := 1722) hx hb dL_law_1628 (by decide) ?_
  refine W.widen (k := cells + 1) (n := slots + 6) (by omega) (by omega) ?_
  exact kk _ _ _ _ _ _ hv' ⟨w1, w2, hO, hD⟩ hS (lw_sub hl (fun q hq => List.mem_cons_of_mem _ (List.mem_cons_of_mem _ hq)))
set_option maxHeartbeats 2000000 in
set_option maxRecDepth 100000 in
theorem lc_heldBits {p : Program} {l : Launch} {e : Env} {s : State} {m : MethodId} {below : List Frame} {meth : Method} {c : Code} {H : Heap} {locs : List Loc} {cells slots : Nat} {Q : State → Prop} {ls : Array Slot} {Dg : va_G} {cA : Nat → ClassId} {cL cD : ClassId} {ad1 ad2 : Nat → Int → Nat} {oc : Nat → Nat} {ao aD b L : Nat} {xs : Nat → Int32} {o : Int64} {d9 : UInt64} {σ : St} {N M i : Int} (hK : LK p l c s m meth b L xs Dg cA cL cD oc) (hA : LA ad1 ad2 ao aD s.heap.size) (hv : Inv N M σ) (hN : N ≤ 1000000) (hM : 0 ≤ M ∧ M ≤ 1000000) (hi : 0 ≤ i ∧ i + 5 ≤ L) (hcs : cells + 1 ≤ 603072 ∧ slots + 6 ≤ 7211114) (hW : LW Dg cA cL cD ad1 ad2 ao aD σ o d9 H) (hS : va_S (NA s.heap.size) s.heap H locs) (hl : lv_has ls 10 (lvL ad1 ad2 ao aD b i))
    (kk : ∀ (σ' : St) (o' : Int64) (d' : UInt64) (H1 : Heap) (locs1 : List Loc) (ls1 : Array Slot), Inv (N + 1) (M + 300) σ' → LW Dg cA cL cD ad1 ad2 ao aD σ' o' d' H1 → va_S (NA s.heap.size) s.heap H1 locs1 → lv_has ls1 10 (lvL ad1 ad2 ao aD b i) → W p l e room_1 s m #[Value.ref b] below meth c H1 locs1 (cells + 1) (slots + 6) Q (F0 m 1722 ls1 [])) : W p l e room_1 s m #[Value.ref b] below meth c H locs cells slots Q (F0 m 1631 ls []) := by
  have hX0 := hK.1
  obtain ⟨hI1, hI2, hWN, -, -, hg1, hg2, hgo, hgD⟩ := id hA
  have hX1 := kx_any hX0 hI1 hg1
  have hX2 := kx_any hX0 hI2 hg2
  have hC1 := hX1.1
  have hC2 := hX2.1
  have hx := hC1.1
  have hb := hC1.2.1
  have hts := hC1.2.2.2.1
  have hK2 := hK.2.1
  have hNc := hK.2.2.1
  have hfl := hK.2.2.2.2.2.1
  have hcs2 : cells ≤ 603072 ∧ slots ≤ 7211114 := by omega
  have hl : lv_has ls 10 [(5, .int (zi i)), (4, .ref aD), (3, .ref ao), (2, .ref (ad2 0 0)), (1, .ref (ad1 0 0)), (0, .ref b)] := hl
  obtain ⟨τ, hτ⟩ : ∃ z, z = ups σ 31 0 0 0 := ⟨_, rfl⟩
  have w1 : WP Dg ccnt ad1 (cE cA ad1 τ) H := by rw [hτ]; exact hW.tau
  obtain ⟨-, w2, hO, hD⟩ := hW
  have hvt : Inv N M τ := by rw [hτ]; exact Inv_o31 hv
  have h031 : τ 31 0 0 = 0 := by rw [hτ, ups_eq]
  have hv' : Inv (N + 1) (M + 300) τ := Inv_mono hvt (by omega) (by omega)
  have hs6 := six_held τ
  refine lv_aload_n hx hb dL_law_1631 rfl (lv_at hl 4 rfl) ?_
  refine k_callI (As := []) (rest := []) hX1 hl.1 (m_heldBits hI1 τ hvt) (cwV 0 hts gL_law_X7_heldBits rfl rfl rfl (by decide +kernel) ⟨Nat.le_of_ble_eq_true rfl, Nat.le_of_ble_eq_true rfl⟩) (rc_KR hC1 w1) w1 hS hcs2 rfl rfl (Nat.le_of_ble_eq_true rfl) dL_law_1632 (fun H1 locs1 w1 hS _ hk => ?_)
  replace w2 := la_k2' hA w2 hk
  replace hO := la_o' hA hO hk
  replace hD := la_d' hA hD hk
  clear hk
  refine lv_aload_n hx hb dL_law_1635 rfl (lv_at hl 3 rfl) ?_
  refine k_callI (As := []) (rest := [.int (zi (hbB (6 - held τ (-1))))]) hX2 hl.1 (n_heldBits hI2 σ hτ hvt) (cwV 0 hts gL_law_X8_heldBits rfl rfl rfl (by decide +kernel) ⟨Nat.le_of_ble_eq_true rfl, Nat.le_of_ble_eq_true rfl⟩) (rc_M hC2 w2) w2 hS hcs2 rfl rfl (Nat.le_of_ble_eq_true rfl) dL_law_1636 (fun H2 locs2 w2 hS _ hk => ?_)
  replace w1 := la_k1 hA w1 hk
  replace hO := la_o hA hO hk
  replace hD := la_d hA hD hk
  clear hk
  have hb9 := hbB_rng (6 - held τ (-1))
  refine k_icmp_eq (tgt := 1722) hC1 dL_law_1639 (by decide) ⟨⟨by omega, by omega⟩, ⟨by omega, by omega⟩⟩ (fun _ => ?_) (fun c9 => absurd rfl c9)
  refine W.widen (k := cells + 1) (n := slots + 6) (by omega) (by omega) ?_
  exact kk _ _ _ _ _ _ hv' ⟨w1, w2, hO, hD⟩ hS (lw_sub hl (fun q hq => hq))
set_option maxHeartbeats 2000000 in
set_option maxRecDepth 100000 in
theorem lc_meanSeen {p : Program} {l : Launch} {e : Env} {s : State} {m : MethodId} {below : List Frame} {meth : Method} {c : Code} {H : Heap} {locs : List Loc} {cells slots : Nat} {Q : State → Prop} {ls : Array Slot} {Dg : va_G} {cA : Nat → ClassId} {cL cD : ClassId} {ad1 ad2 : Nat → Int → Nat} {oc : Nat → Nat} {ao aD b L : Nat} {xs : Nat → Int32} {o : Int64} {d9 : UInt64} {σ : St} {N M i : Int} (hK : LK p l c s m meth b L xs Dg cA cL cD oc) (hA : LA ad1 ad2 ao aD s.heap.size) (hv : Inv N M σ) (hN : N ≤ 1000000) (hM : 0 ≤ M ∧ M ≤ 1000000) (hi : 0 ≤ i ∧ i + 5 ≤ L) (hcs : cells + 1 ≤ 603072 ∧ slots + 6 ≤ 7211114) (hW : LW Dg cA cL cD ad1 ad2 ao aD σ o d9 H) (hS : va_S (NA s.heap.size) s.heap H locs) (hl : lv_has ls 10 (lvL ad1 ad2 ao aD b i))
    (kk : ∀ (σ' : St) (o' : Int64) (d' : UInt64) (H1 : Heap) (locs1 : List Loc) (ls1 : Array Slot), Inv (N + 1) (M + 300) σ' → LW Dg cA cL cD ad1 ad2 ao aD σ' o' d' H1 → va_S (NA s.heap.size) s.heap H1 locs1 → lv_has ls1 10 (lvL ad1 ad2 ao aD b i) → W p l e room_1 s m #[Value.ref b] below meth c H1 locs1 (cells + 1) (slots + 6) Q (F0 m 1722 ls1 [])) : W p l e room_1 s m #[Value.ref b] below meth c H locs cells slots Q (F0 m 1644 ls []) := by
  have hX0 := hK.1
  obtain ⟨hI1, hI2, hWN, -, -, hg1, hg2, hgo, hgD⟩ := id hA
  have hX1 := kx_any hX0 hI1 hg1
  have hX2 := kx_any hX0 hI2 hg2
  have hC1 := hX1.1
  have hC2 := hX2.1
  have hx := hC1.1
  have hb := hC1.2.1
  have hts := hC1.2.2.2.1
  have hK2 := hK.2.1
  have hNc := hK.2.2.1
  have hfl := hK.2.2.2.2.2.1
  have hcs2 : cells ≤ 603072 ∧ slots ≤ 7211114 := by omega
  have hl : lv_has ls 10 [(5, .int (zi i)), (4, .ref aD), (3, .ref ao), (2, .ref (ad2 0 0)), (1, .ref (ad1 0 0)), (0, .ref b)] := hl
  obtain ⟨τ, hτ⟩ : ∃ z, z = ups σ 31 0 0 0 := ⟨_, rfl⟩
  have w1 : WP Dg ccnt ad1 (cE cA ad1 τ) H := by rw [hτ]; exact hW.tau
  obtain ⟨-, w2, hO, hD⟩ := hW
  have hvt : Inv N M τ := by rw [hτ]; exact Inv_o31 hv
  have h031 : τ 31 0 0 = 0 := by rw [hτ, ups_eq]
  refine lv_aload_n hx hb dL_law_1644 rfl (lv_at hl 4 rfl) ?_
  refine lv_aload hx hb dL_law_1645 (lv_at hl 1 rfl) ?_
  refine l_callW (hh := [(0, 7, 10, 99)]) (As := [.ref (ad1 0 0), .ref aD]) (rest := []) hX1 hK2 hNc hgo hgD hl.1 (w_meanSeen hI1 hWN hfl τ hvt hN hM  o d9) (vx_cwSW 2 hts gL_law_L_meanSeen rfl rfl rfl (by decide +kernel) ⟨Nat.le_of_ble_eq_true rfl, Nat.le_of_ble_eq_true rfl⟩) w1 hO hD hS hcs rfl rfl (Nat.le_of_ble_eq_true rfl) dL_law_1647 (fun H1 locs1 w1 hO hD hS hk => ?_)
  replace w2 := la_k2 hA w2 hk
  clear hk
  refine lv_istore (lv' := [(6, .int (zi (cd_meanSeen τ))), (5, .int (zi i)), (4, .ref aD), (3, .ref ao), (2, .ref (ad2 0 0)), (1, .ref (ad1 0 0)), (0, .ref b)]) hx hb dL_law_1650 hl (by decide) rfl (fun ls hl => ?_)
  refine lv_aload_n hx hb dL_law_1652 rfl (lv_at hl 4 rfl) ?_
  refine k_callD (As := []) (rest := []) hX2 hl.1 (q_meanSeen hI2 σ hτ hv hN hM ) (cwV 0 hts gL_law_X8_meanSeen rfl rfl rfl (by decide +kernel) ⟨Nat.le_of_ble_eq_true rfl, Nat.le_of_ble_eq_true rfl⟩) (rc_M hC2 w2) w2 hS hcs rfl rfl (Nat.le_of_ble_eq_true rfl) dL_law_1653 (fun H2 locs2 w2 hS _ hk => ?_)
  replace w1 := la_k1 hA w1 hk
  replace hO := la_o hA hO hk
  replace hD := la_d hA hD hk
  clear hk
  refine lv_dstore (lv' := [(7, .double (bxd (cd_meanSeen τ) (dmB (sumN τ (100 * τ 28 0 0).toNat) (τ 28 0 0)) FP.dconst0)), (6, .int (zi (cd_meanSeen τ))), (5, .int (zi i)), (4, .ref aD), (3, .ref ao), (2, .ref (ad2 0 0)), (1, .ref (ad1 0 0)), (0, .ref b)]) hx hb dL_law_1656 hl (by decide) rfl (fun ls hl => ?_)
  refine lv_aload_n hx hb dL_law_1658 rfl (lv_at hl 5 rfl) ?_
  refine k_callI (As := []) (rest := []) hX2 hl.1 (n_thrown hI2 (stp (cd_meanSeen τ) τ τ)) (cwV 0 hts gL_law_X8_thrown rfl rfl rfl (by decide +kernel) ⟨Nat.le_of_ble_eq_true rfl, Nat.le_of_ble_eq_true rfl⟩) (rc_M hC2 w2) w2 hS hcs rfl rfl (Nat.le_of_ble_eq_true rfl) dL_law_1659 (fun H3 locs3 w2 hS _ hk => ?_)
  replace w1 := la_k1 hA w1 hk
  replace hO := la_o hA hO hk
  replace hD := la_d hA hD hk
  clear hk
  obtain ⟨hv', h31⟩ := iv_meanSeen hvt hM.1 h031 
  refine k_top0 h31 ?_
  have hcd := cdr_meanSeen τ
  refine lv_iload hx hb dL_law_1662 (lv_at hl 1 rfl) ?_
  refine k_icmp_eq (tgt := 1669) hC1 dL_law_1664 (by decide) ⟨⟨by omega, by omega⟩, ⟨by omega, by omega⟩⟩ (fun _ => ?_) (fun z => absurd rfl z)
  refine lv_iload hx hb dL_law_1669 (lv_at hl 1 rfl) ?_
  refine k_if_ne (tgt := 1706) hC1 dL_law_1671 (by decide) ⟨by omega, by omega⟩ (fun z => ?_) (fun z => ?_)
  · refine lv_goto (tgt := 1722) hx hb dL_law_1706 (by decide) ?_
    exact kk _ _ _ _ _ _ hv' ⟨w1, w2, hO, hD⟩ hS (lw_sub hl (fun q hq => List.mem_cons_of_mem _ (List.mem_cons_of_mem _ hq)))
  · refine lv_aload hx hb dL_law_1674 (lv_at hl 3 rfl) ?_
    refine k_iconst hC1 dL_law_1676 ?_
    refine l_dald hx hb hK2 hD dL_law_1677 ?_
    refine lv_dload hx hb dL_law_1678 (lv_at hl 0 rfl) ?_
    have hA9 := hvt.A
    unfold IvA at hA9
    have hp9 : 0 < τ 28 0 0 := by
      by_cases h9 : 0 < τ 28 0 0
      · exact h9
      · exfalso
        have e9 : cd_meanSeen τ = 1 := by unfold cd_meanSeen; rw [if_neg h9]
        rw [e9] at z
        exact absurd z (by decide)
    refine l_dcmp hx hb (by rw [z, bxd_0, bxd_0]; exact dmB_cmp (by omega)) dL_law_1680 ?_
    refine k_if_eq (tgt := 1706) hC1 dL_law_1681 (by decide) (by decide) (fun _ => ?_) (fun c9 => absurd rfl c9)
    refine lv_goto (tgt := 1722) hx hb dL_law_1706 (by decide) ?_
    exact kk _ _ _ _ _ _ hv' ⟨w1, w2, hO, hD⟩ hS (lw_sub hl (fun q hq => List.mem_cons_of_mem _ (List.mem_cons_of_mem _ hq)))
set_option maxHeartbeats 2000000 in
set_option maxRecDepth 100000 in
theorem lc_isSound {p : Program} {l : Launch} {e : Env} {s : State} {m : MethodId} {below : List Frame} {meth : Method} {c : Code} {H : Heap} {locs : List Loc} {cells slots : Nat} {Q : State → Prop} {ls : Array Slot} {Dg : va_G} {cA : Nat → ClassId} {cL cD : ClassId} {ad1 ad2 : Nat → Int → Nat} {oc : Nat → Nat} {ao aD b L : Nat} {xs : Nat → Int32} {o : Int64} {d9 : UInt64} {σ : St} {N M i : Int} (hK : LK p l c s m meth b L xs Dg cA cL cD oc) (hA : LA ad1 ad2 ao aD s.heap.size) (hv : Inv N M σ) (hN : N ≤ 1000000) (hM : 0 ≤ M ∧ M ≤ 1000000) (hi : 0 ≤ i ∧ i + 5 ≤ L) (hcs : cells + 1 ≤ 603072 ∧ slots + 6 ≤ 7211114) (hW : LW Dg cA cL cD ad1 ad2 ao aD σ o d9 H) (hS : va_S (NA s.heap.size) s.heap H locs) (hl : lv_has ls 10 (lvL ad1 ad2 ao aD b i))
    (kk : ∀ (σ' : St) (o' : Int64) (d' : UInt64) (H1 : Heap) (locs1 : List Loc) (ls1 : Array Slot), Inv (N + 1) (M + 300) σ' → LW Dg cA cL cD ad1 ad2 ao aD σ' o' d' H1 → va_S (NA s.heap.size) s.heap H1 locs1 → lv_has ls1 10 (lvL ad1 ad2 ao aD b i) → W p l e room_1 s m #[Value.ref b] below meth c H1 locs1 (cells + 1) (slots + 6) Q (F0 m 1722 ls1 [])) : W p l e room_1 s m #[Value.ref b] below meth c H locs cells slots Q (F0 m 1709 ls []) := by
  have hX0 := hK.1
  obtain ⟨hI1, hI2, hWN, -, -, hg1, hg2, hgo, hgD⟩ := id hA
  have hX1 := kx_any hX0 hI1 hg1
  have hX2 := kx_any hX0 hI2 hg2
  have hC1 := hX1.1
  have hC2 := hX2.1
  have hx := hC1.1
  have hb := hC1.2.1
  have hts := hC1.2.2.2.1
  have hK2 := hK.2.1
  have hNc := hK.2.2.1
  have hfl := hK.2.2.2.2.2.1
  have hcs2 : cells ≤ 603072 ∧ slots ≤ 7211114 := by omega
  have hl : lv_has ls 10 [(5, .int (zi i)), (4, .ref aD), (3, .ref ao), (2, .ref (ad2 0 0)), (1, .ref (ad1 0 0)), (0, .ref b)] := hl
  obtain ⟨τ, hτ⟩ : ∃ z, z = ups σ 31 0 0 0 := ⟨_, rfl⟩
  have w1 : WP Dg ccnt ad1 (cE cA ad1 τ) H := by rw [hτ]; exact hW.tau
  obtain ⟨-, w2, hO, hD⟩ := hW
  have hvt : Inv N M τ := by rw [hτ]; exact Inv_o31 hv
  have h031 : τ 31 0 0 = 0 := by rw [hτ, ups_eq]
  have hv' : Inv (N + 1) (M + 300) τ := Inv_mono hvt (by omega) (by omega)
  have hs6 := six_held τ
  refine lv_aload_n hx hb dL_law_1709 rfl (lv_at hl 4 rfl) ?_
  refine k_callI (As := []) (rest := []) hX1 hl.1 (m_isSound hI1 τ hvt hN) (cwV 0 hts gL_law_X7_isSound rfl rfl rfl (by decide +kernel) ⟨Nat.le_of_ble_eq_true rfl, Nat.le_of_ble_eq_true rfl⟩) (rc_KR hC1 w1) w1 hS hcs2 rfl rfl (Nat.le_of_ble_eq_true rfl) dL_law_1710 (fun H1 locs1 w1 hS _ hk => ?_)
  replace w2 := la_k2' hA w2 hk
  replace hO := la_o' hA hO hk
  replace hD := la_d' hA hD hk
  clear hk
  refine lv_aload_n hx hb dL_law_1713 rfl (lv_at hl 3 rfl) ?_
  refine k_callI (As := []) (rest := [.int (zi 1)]) hX2 hl.1 (n_isSound hI2 σ hτ) (cwV 0 hts gL_law_X8_isSound rfl rfl rfl (by decide +kernel) ⟨Nat.le_of_ble_eq_true rfl, Nat.le_of_ble_eq_true rfl⟩) (rc_M hC2 w2) w2 hS hcs2 rfl rfl (Nat.le_of_ble_eq_true rfl) dL_law_1714 (fun H2 locs2 w2 hS _ hk => ?_)
  replace w1 := la_k1 hA w1 hk
  replace hO := la_o hA hO hk
  replace hD := la_d hA hD hk
  clear hk
  have hb9 := hbB_rng (6 - held τ (-1))
  refine k_icmp_eq (tgt := 1722) hC1 dL_law_1717 (by decide) ⟨⟨by omega, by omega⟩, ⟨by omega, by omega⟩⟩ (fun _ => ?_) (fun c9 => absurd rfl c9)
  refine W.widen (k := cells + 1) (n := slots + 6) (by omega) (by omega) ?_
  exact kk _ _ _ _ _ _ hv' ⟨w1, w2, hO, hD⟩ hS (lw_sub hl (fun q hq => hq))
end M16
