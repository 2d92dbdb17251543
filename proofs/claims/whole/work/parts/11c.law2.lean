theorem la_new {h0 sz : Nat} (h : sz ≤ h0) : LA (adC h0) (adM (h0 + 196)) (h0 + 223) (h0 + 224) sz := by
  refine ⟨adC_WI h0, adM_WI (h0 + 196), ⟨by omega, fun t i x y => ?_⟩, fun t i t' i' x y x' y' => ?_, fun t i x y => ?_, fun t i x y => Nat.le_trans h (adC_rng h0 x y).1, fun t i x y => Nat.le_trans h (Nat.le_trans (by omega) (adM_rng (h0 + 196) x y).1), by omega, by omega⟩
  · have h9 := adC_rng h0 x y
    generalize adC h0 t i = a at h9 ⊢
    omega
  · have h9 := adC_rng h0 x y
    have h8 := adM_rng (h0 + 196) x' y'
    generalize adC h0 t i = a at h9 ⊢
    generalize adM (h0 + 196) t' i' = a' at h8 ⊢
    omega
  · have h9 := adM_rng (h0 + 196) x y
    generalize adM (h0 + 196) t i = a at h9 ⊢
    omega
set_option maxHeartbeats 4000000 in
set_option maxRecDepth 100000 in
theorem law_made {p : Program} {e : Env} {s : State} {m : MethodId} {below : List Frame} {meth : Method} {c : Code} {l : Launch} {b L : Nat} {xs : Nat → Int32} {Dg : va_G} {cA : Nat → ClassId} {cL cD : ClassId} {oc : Nat → Nat} {ls : Array Slot} (hLK : LK p l c s m meth b L xs Dg cA cL cD oc) (hAOW : AOW s) (hr : meth.sig.returnType = ret) (hl : lv_has ls 10 [(0, .ref b)]) : W p l e room_1 s m #[Value.ref b] below meth c s.heap [] 0 0 (lw_Z below #[Value.ref b] s) (F0 m 0 ls []) := by
  have hX0 := hLK.1
  have hK2 := hLK.2.1
  have hx := hX0.1.1
  have hb := hX0.1.2.1
  have hts1 := hX0.1.2.2.2.1
  have hC := hX0.1
  have n1 : s.vm.findClass ("[" ++ (FieldType.long).toString) = some cL := (hK2.2 0 (cL, .long) rfl).2
  have n2 : s.vm.findClass ("[" ++ (FieldType.double).toString) = some cD := (hK2.2 1 (cD, .double) rfl).2
  have hS : va_S (NA s.heap.size) s.heap s.heap [] := va_S.rf
  obtain ⟨h0, hh0⟩ : ∃ z, z = s.heap.size := ⟨_, rfl⟩
  refine l_make (hb := h0) (C := RX7) (T := TX7) (N := 9) (ci := 8) (rest := []) hX0 hAOW inlX7 tyX7 tyX7_ok (hts1 (.classLink RL 8 RX7) (by decide +kernel)) (hts1 (.instantiable RX7 9) (by decide +kernel)) (hts1 (.initialized RX7) (by decide +kernel)) rfl (by decide +kernel) (c_X7 h0) (cwI 0 hts1 gL_law_X7_init rfl rfl rfl (hts1 (.initialized RX7) (by decide +kernel)) (hts1 (.methodLink RL 101 yX7_init) (by decide +kernel)) (hts1 (.instanceMethod yX7_init) (by decide +kernel)) rfl (by decide +kernel) ⟨Nat.le_of_ble_eq_true rfl, Nat.le_of_ble_eq_true rfl⟩) hh0.symm (by omega) hS hl.1 (Nat.le_of_ble_eq_true rfl) (Nat.le_of_ble_eq_true rfl) (Nat.le_of_ble_eq_true rfl) dL_law_0 dL_law_3 dL_law_4 (fun H1 locs1 hH1 hk1 hS => ?_)
  have w1 := wp_C hH1
  refine lv_astore_n (lv' := [(1, .ref h0), (0, .ref b)]) hx hb dL_law_7 rfl hl (by decide) rfl (fun ls hl => ?_)
  refine l_make (hb := h0 + 196) (C := RX8) (T := TX8) (N := 32) (ci := 9) (rest := []) hX0 hAOW inlX8 tyX8 tyX8_ok (hts1 (.classLink RL 102 RX8) (by decide +kernel)) (hts1 (.instantiable RX8 32) (by decide +kernel)) (hts1 (.initialized RX8) (by decide +kernel)) rfl (by decide +kernel) (c_X8 (h0 + 196)) (cwI 0 hts1 gL_law_X8_init rfl rfl rfl (hts1 (.initialized RX8) (by decide +kernel)) (hts1 (.methodLink RL 104 yX8_init) (by decide +kernel)) (hts1 (.instanceMethod yX8_init) (by decide +kernel)) rfl (by decide +kernel) ⟨Nat.le_of_ble_eq_true rfl, Nat.le_of_ble_eq_true rfl⟩) hH1.1 (by omega) hS hl.1 (Nat.le_of_ble_eq_true rfl) (Nat.le_of_ble_eq_true rfl) (Nat.le_of_ble_eq_true rfl) dL_law_8 dL_law_11 dL_law_12 (fun H2 locs2 hH2 hk2 hS => ?_)
  have w2 := wp_M hH2
  have w1 := w1.kept (fun t i x y => hk2 _ (adC_rng h0 x y).2)
  refine lv_astore_n (lv' := [(2, .ref (h0 + 196)), (1, .ref h0), (0, .ref b)]) hx hb dL_law_15 rfl hl (by decide) rfl (fun ls hl => ?_)
  refine k_iconst hC dL_law_16 ?_
  refine l_box (hb := h0 + 223) (atype := .long) (ty := .long) (dv := .long 0) hX0 (hts1 (.arrayClass .long) (by decide +kernel)) rfl (Nat.le_of_ble_eq_true rfl) n1 rfl (hH2.1.trans (by omega)) hS (Nat.le_of_ble_eq_true rfl) (Nat.le_of_ble_eq_true rfl) dL_law_17 (fun H3 z3 e3 hk3 hS => ?_)
  have w2 := w2.kept (fun t i x y => hk3 _ (Nat.lt_of_lt_of_le (adM_rng (h0 + 196) x y).2 (by omega)))
  have w1 := w1.kept (fun t i x y => hk3 _ (Nat.lt_of_lt_of_le (adC_rng h0 x y).2 (by omega)))
  refine lv_astore_n (lv' := [(3, .ref (h0 + 223)), (2, .ref (h0 + 196)), (1, .ref h0), (0, .ref b)]) hx hb dL_law_19 rfl hl (by decide) rfl (fun ls hl => ?_)
  refine k_iconst hC dL_law_20 ?_
  refine l_box (hb := h0 + 224) (atype := .double) (ty := .double) (dv := .double 0) hX0 (hts1 (.arrayClass .double) (by decide +kernel)) rfl (Nat.le_of_ble_eq_true rfl) n2 rfl z3 hS (Nat.le_of_ble_eq_true rfl) (Nat.le_of_ble_eq_true rfl) dL_law_21 (fun H4 z4 e4 hk4 hS => ?_)
  have w2 := w2.kept (fun t i x y => hk4 _ (Nat.lt_of_lt_of_le (adM_rng (h0 + 196) x y).2 (by omega)))
  have w1 := w1.kept (fun t i x y => hk4 _ (Nat.lt_of_lt_of_le (adC_rng h0 x y).2 (by omega)))
  have hO : va_at Dg vwCl (h0 + 223, zlE cL 0) H4 := (hk4 (h0 + 223) (by omega)).trans e3
  have hD : va_at Dg vwCl (h0 + 224, dlE cD 0) H4 := e4
  refine lv_astore (lv' := [(4, .ref (h0 + 224)), (3, .ref (h0 + 223)), (2, .ref (h0 + 196)), (1, .ref h0), (0, .ref b)]) hx hb dL_law_23 hl (by decide) rfl (fun ls hl => ?_)
  refine k_iconst hC dL_law_25 ?_
  refine lv_istore (lv' := [(5, .int (zi 0)), (4, .ref (h0 + 224)), (3, .ref (h0 + 223)), (2, .ref (h0 + 196)), (1, .ref h0), (0, .ref b)]) hx hb dL_law_26 hl (by decide) rfl (fun ls hl => ?_)
  have hLA : LA (adC h0) (adM (h0 + 196)) (h0 + 223) (h0 + 224) s.heap.size := la_new (by omega)
  refine W.widen (k := 225 + 0) (n := 8255 + 6 * 0) (Nat.le_of_ble_eq_true rfl) (Nat.le_of_ble_eq_true rfl) ?_
  exact law_loop hLK hLA hr 513 0 (by omega) σ0 0 0 H4 _ ls (Inv_mono Inv0 (by decide) (by decide)) ⟨w1, w2, hO, hD⟩ hS hl
set_option maxHeartbeats 4000000 in
set_option maxRecDepth 100000 in
theorem whole_start {p : Program} {e : Env} {s : State} {m : MethodId} {below : List Frame} {meth : Method} {c : Code} (l : Launch) (hflags : l.flags = flags0) {b L : Nat} {xs : Nat → Int32} (hL : L ≤ 2560) (C0 : lw_At p s m meth c b L xs) : W p l e room_1 s m #[Value.ref b] below meth c s.heap [] 0 0 (lw_Z below #[Value.ref b] s) (entryFrame m ([Value.ref b] : List Value).toArray 10) := by
  obtain ⟨hx, hb, hr, hml, hown, hts, hXb, hbl, hlocks, hgv⟩ := id C0
  have hfl : l.stackTraces = false := by unfold Launch.stackTraces; rw [hflags]; decide +kernel
  obtain ⟨Dg, cA, cL, cD, hK, hK2⟩ := st_K hts
  obtain ⟨oc, hE⟩ := st_ENV hts hgv
  have hNc := st_Nc hgv
  have hAOW := st_AOW hts
  have hown : s.vm.findClass RL = some m.cls := hown
  have hts1 : ∀ w ∈ wsL_law, w.before #[Value.ref b] s = true := fun w hw => hts w (wsL_law_in w hw)
  have hX0 : KX p c cL_law s m meth #[Value.ref b] RL wsL_law Dg cA (fun _ => 0) (fun _ _ => 0) oc (NA s.heap.size) 10 (some .boolean) :=
    ⟨⟨hx, hb, hown, hts1, hK, fun t i t' i' h0 h1 => absurd h1 (by show ¬ i < (0 : Int); omega), fun t i h0 h1 => absurd h1 (by show ¬ i < (0 : Int); omega)⟩, hml, hr, hlocks, hE, fun q h => h⟩
  have hLK : LK p l c s m meth b L xs Dg cA cL cD oc := ⟨hX0, hK2, hNc, hXb, hbl, hfl, hL⟩
  have hl := lv_entry ([.ref b]) (n := 10) (Nat.le_of_ble_eq_true rfl)
  rw [lg_entry_eq]
  generalize (lg_sl ([.ref b]) ++ List.replicate (10 - (lg_sl ([.ref b])).length) Slot.unset).toArray = ls at hl ⊢
  have hl : lv_has ls 10 [(0, .ref b)] := hl
  exact law_made hLK hAOW hr hl
