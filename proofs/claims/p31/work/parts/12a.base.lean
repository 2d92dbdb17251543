section LAWB
variable {p : Program} {l : Launch} {e : Env} {R : Room} {s : State} {m : MethodId} {args : Array Value} {below : List Frame} {meth : Method} {c : Code} {H H0 : Heap} {locs : List Loc} {cells slots : Nat} {Q : State → Prop} {cc bytes : ByteArray} {pc index maxL n : Nat} {ls : Array Slot} {rest st0 : List Value} {own C : String} {Ts ws ws' : List Cond} {Dg : va_G} {cA : Nat → ClassId} {cnt : Nat → Int} {ad ad1 ad2 : Nat → Int → Nat} {oc : Nat → Nat} {A : Nat → Prop} {E E' E1 E2 : Nat → Int → va_E} {nL : Nat} {ret0 : Option FieldType} {y : MethodName} {rm : Room} {b L a av : Nat} {xs : Nat → Int32} {As : List Value} {hh : List (Nat × Nat × Nat × Nat)} {σ τ : St}
/-- what the law's walk stands on -/
def LK (p : Program) (l : Launch) (c : Code) (s : State) (m : MethodId) (meth : Method) (b L : Nat) (xs : Nat → Int32) (Dg : va_G) (cA : Nat → ClassId) (oc : Nat → Nat) (a av : Nat) : Prop :=
  KX p c cL_law s m meth #[Value.ref b] RL wsL_law Dg cA (fun _ => 0) (fun _ _ => 0) oc (NA s.heap.size) 13 (some .boolean) ∧ (∀ q ∈ ncL, va_Nc q.1 q.2 s) ∧ va_X b L xs s s.heap ∧ b < s.heap.size ∧ l.stackTraces = false ∧ L ≤ 260 ∧ ST a av (NA s.heap.size) s s.heap ∧ vk_R "KioskReelLaw" 121 "sswgvlcppsdf" a s
/-- the object and the law's own arrays lie apart, and were made in this call -/
def LA (ad1 ad2 : Nat → Int → Nat) (h0 : Nat) : Prop :=
  (WI ccnt ad1 ∧ ∀ (t : Nat) (i : Int), 0 ≤ i → i < ccnt t → h0 ≤ ad1 t i) ∧ (WI ncnt ad2 ∧ ∀ (t : Nat) (i : Int), 0 ≤ i → i < ncnt t → h0 ≤ ad2 t i) ∧ ∀ (t : Nat) (i : Int) (t' : Nat) (i' : Int), 0 ≤ i → i < ccnt t → 0 ≤ i' → i' < ncnt t' → ad1 t i ≠ ad2 t' i'
theorem kx_any (hX : KX p c cc s m meth args own Ts Dg cA (fun _ => 0) (fun _ _ => 0) oc A nL ret0) (hI : WI cnt ad) (hA : ∀ (t : Nat) (i : Int), 0 ≤ i → i < cnt t → A (ad t i)) : KX p c cc s m meth args own Ts Dg cA cnt ad oc A nL ret0 :=
  ⟨⟨hX.1.1, hX.1.2.1, hX.1.2.2.1, hX.1.2.2.2.1, hX.1.2.2.2.2.1, hI, hA⟩, hX.2⟩
theorem LK.kn (hK : LK p l c s m meth b L xs Dg cA oc a av) (hA : LA ad1 ad2 s.heap.size) : KX p c cL_law s m meth #[Value.ref b] RL wsL_law Dg cA ncnt ad2 oc (NA s.heap.size) 13 (some .boolean) := kx_any hK.1 hA.2.1.1 hA.2.1.2
theorem LK.kc (hK : LK p l c s m meth b L xs Dg cA oc a av) (hA0 : WI ccnt ad1 ∧ ∀ (t : Nat) (i : Int), 0 ≤ i → i < ccnt t → s.heap.size ≤ ad1 t i) : KX p c cL_law s m meth #[Value.ref b] RL wsL_law Dg cA ccnt ad1 oc (NA s.heap.size) 13 (some .boolean) := kx_any hK.1 hA0.1 hA0.2
/-- a call of the one leaves the other -/
theorem la_kc {H1 : Heap} (hA : LA ad1 ad2 s.heap.size) (w2 : WP Dg ncnt ad2 E2 H) (hk : ∀ q : Nat, q < H.size → ¬ WA ccnt ad1 H.size q → H1[q]? = H[q]?) : WP Dg ncnt ad2 E2 H1 := by
  refine w2.kept (fun t i x z => hk _ (w2.lt x z) (fun w => ?_))
  have hlt := w2.lt x z
  rcases w with ⟨t', i', a', b', w⟩ | w
  · exact hA.2.2 t' i' t i a' b' x z w.symm
  · omega
theorem la_kn {H1 : Heap} (hA : LA ad1 ad2 s.heap.size) (w1 : WP Dg ccnt ad1 E1 H) (hk : ∀ q : Nat, q < H.size → ¬ WA ncnt ad2 H.size q → H1[q]? = H[q]?) : WP Dg ccnt ad1 E1 H1 := by
  refine w1.kept (fun t i x z => hk _ (w1.lt x z) (fun w => ?_))
  have hlt := w1.lt x z
  rcases w with ⟨t', i', a', b', w⟩ | w
  · exact hA.2.2 t i t' i' x z a' b' w
  · omega
theorem wp_all {H1 : Heap} {cnt9 : Nat → Int} {ad9 : Nat → Int → Nat} {E9 : Nat → Int → va_E} (w : WP Dg cnt9 ad9 E9 H) (hk : ∀ q : Nat, q < H.size → ¬ NA H.size q → H1[q]? = H[q]?) : WP Dg cnt9 ad9 E9 H1 :=
  w.kept (fun t i x z => hk _ (w.lt x z) (fun q => by have q : H.size ≤ ad9 t i := q; have := w.lt x z; omega))
-- calls behind a wrapper
theorem l_w0 {v : Int} (hK : LK p l c s m meth b L xs Dg cA oc a av) (hA0 : WI ccnt ad1 ∧ ∀ (t : Nat) (i : Int), 0 ≤ i → i < ccnt t → s.heap.size ≤ ad1 t i) (hls : ls.size = 13) (hM : GW l y ws rm Dg cA ad1 oc E As v E') (cw : vx_CSW R s #[Value.ref b] RL index y bytes maxL (some .int) hh ws rm 1 6 n) (hW : WP Dg ccnt ad1 E H) (hS : va_S (NA s.heap.size) s.heap H locs) (hf : cells + 1 ≤ R.cells ∧ slots + 6 ≤ R.slots) (hst : st0 = As.reverse ++ rest) (hn : As.length = n) (hcat : (rest.map fun v => v.category).sum ≤ 8) (hdg : decode cL_law pc = .ok (.invokestatic index, 3))
    (kk : ∀ (H1 : Heap) (locs1 : List Loc), WP Dg ccnt ad1 E' H1 → va_S (NA s.heap.size) s.heap H1 locs1 → H.size ≤ H1.size → (∀ q : Nat, q < H.size → ¬ WA ccnt ad1 H.size q → H1[q]? = H[q]?) → W p l e R s m #[Value.ref b] below meth c H1 locs1 (cells + 1) (slots + 6) Q (F0 m (pc + 3) ls (.int (zi v) :: rest))) : W p l e R s m #[Value.ref b] below meth c H locs cells slots Q (F0 m pc ls st0) := by
  have hX := hK.kc hA0
  have hA1 := wa_sub (H0 := H) hX.1.2.2.2.2.2.2 hX.2.2.2.2.2 hS
  refine va_calli (vx_runSW (As := As) (rest := rest) ⟨hX.1.1, hX.1.2.1, hX.2.1, hX.1.2.2.1, hX.1.2.2.2.1⟩ (hM H.size) cw ⟨wPre_blind, fun U hU hWm => ⟨rfl, by rw [hU], by rw [hU]; exact hW, va_K.moved hWm.alike hX.1.2.2.2.2.1, by rw [hU]; exact hX.2.2.2.2.1.call hS hA1 hWm, fun q hq => va_Nc.moved hWm.alike (hK.2.1 q hq)⟩⟩ rfl hn hls hst (lv_room hcat) hdg hf) hS (fun q _ h => hA1 q h) hA1 (fun r u t H1 locs1 ht _ hp hB hz hk hS1 => ?_)
  have hB : WP Dg ccnt ad1 E' t.heap := hB
  rw [ht] at hB
  have hp : r = zi v := hp
  subst hp
  exact kk H1 locs1 hB hS1 hz hk
theorem l_wD0 {v : UInt64} (hK : LK p l c s m meth b L xs Dg cA oc a av) (hA0 : WI ccnt ad1 ∧ ∀ (t : Nat) (i : Int), 0 ≤ i → i < ccnt t → s.heap.size ≤ ad1 t i) (hls : ls.size = 13) (hM : GWD l y ws rm Dg cA ad1 oc E As v E') (cw : vx_CSW R s #[Value.ref b] RL index y bytes maxL (some .double) hh ws rm 1 6 n) (hW : WP Dg ccnt ad1 E H) (hS : va_S (NA s.heap.size) s.heap H locs) (hf : cells + 1 ≤ R.cells ∧ slots + 6 ≤ R.slots) (hst : st0 = As.reverse ++ rest) (hn : As.length = n) (hcat : (rest.map fun v => v.category).sum ≤ 8) (hdg : decode cL_law pc = .ok (.invokestatic index, 3))
    (kk : ∀ (H1 : Heap) (locs1 : List Loc), WP Dg ccnt ad1 E' H1 → va_S (NA s.heap.size) s.heap H1 locs1 → H.size ≤ H1.size → (∀ q : Nat, q < H.size → ¬ WA ccnt ad1 H.size q → H1[q]? = H[q]?) → W p l e R s m #[Value.ref b] below meth c H1 locs1 (cells + 1) (slots + 6) Q (F0 m (pc + 3) ls (.double v :: rest))) : W p l e R s m #[Value.ref b] below meth c H locs cells slots Q (F0 m pc ls st0) := by
  have hX := hK.kc hA0
  have hA1 := wa_sub (H0 := H) hX.1.2.2.2.2.2.2 hX.2.2.2.2.2 hS
  refine va_calld (vx_runSW (As := As) (rest := rest) ⟨hX.1.1, hX.1.2.1, hX.2.1, hX.1.2.2.1, hX.1.2.2.2.1⟩ (hM H.size) cw ⟨wPre_blind, fun U hU hWm => ⟨rfl, by rw [hU], by rw [hU]; exact hW, va_K.moved hWm.alike hX.1.2.2.2.2.1, by rw [hU]; exact hX.2.2.2.2.1.call hS hA1 hWm, fun q hq => va_Nc.moved hWm.alike (hK.2.1 q hq)⟩⟩ rfl hn hls hst (lv_room hcat) hdg hf) hS (fun q _ h => hA1 q h) hA1 (fun r u t H1 locs1 ht _ hp hB hz hk hS1 => ?_)
  have hB : WP Dg ccnt ad1 E' t.heap := hB
  rw [ht] at hB
  have hp : r = v := hp
  subst hp
  exact kk H1 locs1 hB hS1 hz hk
theorem l_w {v : Int} (hK : LK p l c s m meth b L xs Dg cA oc a av) (hA : LA ad1 ad2 s.heap.size) (hls : ls.size = 13) (hM : GW l y ws rm Dg cA ad1 oc E As v E') (cw : vx_CSW R s #[Value.ref b] RL index y bytes maxL (some .int) hh ws rm 1 6 n) (hW : WP Dg ccnt ad1 E H) (hN : WP Dg ncnt ad2 E2 H) (hS : va_S (NA s.heap.size) s.heap H locs) (hf : cells + 1 ≤ R.cells ∧ slots + 6 ≤ R.slots) (hst : st0 = As.reverse ++ rest) (hn : As.length = n) (hcat : (rest.map fun v => v.category).sum ≤ 8) (hdg : decode cL_law pc = .ok (.invokestatic index, 3))
    (kk : ∀ (H1 : Heap) (locs1 : List Loc), WP Dg ccnt ad1 E' H1 → WP Dg ncnt ad2 E2 H1 → va_S (NA s.heap.size) s.heap H1 locs1 → W p l e R s m #[Value.ref b] below meth c H1 locs1 (cells + 1) (slots + 6) Q (F0 m (pc + 3) ls (.int (zi v) :: rest))) : W p l e R s m #[Value.ref b] below meth c H locs cells slots Q (F0 m pc ls st0) :=
  l_w0 hK hA.1 hls hM cw hW hS hf hst hn hcat hdg (fun H1 locs1 hW1 hS1 _ hk => kk H1 locs1 hW1 (la_kc hA hN hk) hS1)
-- calls of the object itself
theorem l_cL {v : Int} (hK : LK p l c s m meth b L xs Dg cA oc a av) (hA : LA ad1 ad2 s.heap.size) (hls : ls.size = 13) (hM : GL l y ws rm Dg cA ccnt ad1 oc E (.ref (ad1 0 0) :: As) v E') (cw : CallW R s #[Value.ref b] RL RX7 index y bytes maxL (some .long) ws rm 0 0 n) (hr : ∃ cell : Cell, H[ad1 0 0]? = some cell ∧ cell.vm.isStatics = false ∧ s.vm.findClass RX7 = some cell.cls) (hW : WP Dg ccnt ad1 E H) (hN : WP Dg ncnt ad2 E2 H) (hS : va_S (NA s.heap.size) s.heap H locs) (hf : cells ≤ R.cells ∧ slots ≤ R.slots) (hst : st0 = As.reverse ++ .ref (ad1 0 0) :: rest) (hn : As.length = n) (hcat : (rest.map fun v => v.category).sum ≤ 8) (hdg : decode cL_law pc = .ok (.invokevirtual index, 3))
    (kk : ∀ (H1 : Heap) (locs1 : List Loc), WP Dg ccnt ad1 E' H1 → WP Dg ncnt ad2 E2 H1 → va_S (NA s.heap.size) s.heap H1 locs1 → W p l e R s m #[Value.ref b] below meth c H1 locs1 cells slots Q (F0 m (pc + 3) ls (.long (zl v) :: rest))) : W p l e R s m #[Value.ref b] below meth c H locs cells slots Q (F0 m pc ls st0) :=
  k_callL (hK.kc hA.1) hls hM cw hr hW hS hf hst hn hcat hdg (fun H1 locs1 hW1 hS1 _ hk => kk H1 locs1 hW1 (la_kc hA hN hk) hS1)
theorem l_cI {v : Int} {rt : FieldType} (hK : LK p l c s m meth b L xs Dg cA oc a av) (hA : LA ad1 ad2 s.heap.size) (hls : ls.size = 13) (hM : GI l y ws rm Dg cA ccnt ad1 oc E (.ref (ad1 0 0) :: As) v E') (cw : CallW R s #[Value.ref b] RL RX7 index y bytes maxL (some rt) ws rm 0 0 n) (hr : ∃ cell : Cell, H[ad1 0 0]? = some cell ∧ cell.vm.isStatics = false ∧ s.vm.findClass RX7 = some cell.cls) (hW : WP Dg ccnt ad1 E H) (hN : WP Dg ncnt ad2 E2 H) (hS : va_S (NA s.heap.size) s.heap H locs) (hf : cells ≤ R.cells ∧ slots ≤ R.slots) (hst : st0 = As.reverse ++ .ref (ad1 0 0) :: rest) (hn : As.length = n) (hcat : (rest.map fun v => v.category).sum ≤ 8) (hdg : decode cL_law pc = .ok (.invokevirtual index, 3))
    (kk : ∀ (H1 : Heap) (locs1 : List Loc), WP Dg ccnt ad1 E' H1 → WP Dg ncnt ad2 E2 H1 → va_S (NA s.heap.size) s.heap H1 locs1 → W p l e R s m #[Value.ref b] below meth c H1 locs1 cells slots Q (F0 m (pc + 3) ls (.int (zi v) :: rest))) : W p l e R s m #[Value.ref b] below meth c H locs cells slots Q (F0 m pc ls st0) :=
  k_callI (hK.kc hA.1) hls hM cw hr hW hS hf hst hn hcat hdg (fun H1 locs1 hW1 hS1 _ hk => kk H1 locs1 hW1 (la_kc hA hN hk) hS1)
/-- a call of the law's own over its arrays -/
theorem l_nV (hK : LK p l c s m meth b L xs Dg cA oc a av) (hA : LA ad1 ad2 s.heap.size) (hls : ls.size = 13) (hM : GV l y ws rm Dg cA ncnt ad2 oc E2 As E') (cw : CallB R s #[Value.ref b] RL index y bytes maxL none ws rm 0 0 n ∧ (Cond.static y).before #[Value.ref b] s = true) (hW : WP Dg ccnt ad1 E H) (hN : WP Dg ncnt ad2 E2 H) (hS : va_S (NA s.heap.size) s.heap H locs) (hf : cells ≤ R.cells ∧ slots ≤ R.slots) (hst : st0 = As.reverse ++ rest) (hn : As.length = n) (hcat : (rest.map fun v => v.category).sum ≤ 8) (hdg : decode cL_law pc = .ok (.invokestatic index, 3))
    (kk : ∀ (H1 : Heap) (locs1 : List Loc), WP Dg ccnt ad1 E H1 → WP Dg ncnt ad2 E' H1 → va_S (NA s.heap.size) s.heap H1 locs1 → W p l e R s m #[Value.ref b] below meth c H1 locs1 cells slots Q (F0 m (pc + 3) ls rest)) : W p l e R s m #[Value.ref b] below meth c H locs cells slots Q (F0 m pc ls st0) :=
  k_callSV (hK.kn hA) hls hM cw hN hS hf hst hn hcat hdg (fun H1 locs1 hN1 hS1 _ hk => kk H1 locs1 (la_kn hA hW hk) hN1 hS1)
/-- the script's draws -/
theorem l_in {i k : Int} (hK : LK p l c s m meth b L xs Dg cA oc a av) (hi : 0 ≤ i ∧ i < 100000) (hk0 : 1 ≤ k ∧ k < 100000) (hls : ls.size = 13) (hW : WP Dg ccnt ad1 E H) (hN : WP Dg ncnt ad2 E2 H) (hS : va_S (NA s.heap.size) s.heap H locs) (hf : cells ≤ room_1.cells ∧ slots ≤ room_1.slots) (hcat : (rest.map fun v => v.category).sum ≤ 8) (hdg : decode cL_law pc = .ok (.invokestatic 113, 3))
    (kk : ∀ (H1 : Heap) (locs1 : List Loc) (r : Int), 0 ≤ r ∧ r < k → WP Dg ccnt ad1 E H1 → WP Dg ncnt ad2 E2 H1 → va_S (NA s.heap.size) s.heap H1 locs1 → W p l e room_1 s m #[Value.ref b] below meth c H1 locs1 cells slots Q (F0 m (pc + 3) ls (.int (zi r) :: rest))) : W p l e room_1 s m #[Value.ref b] below meth c H locs cells slots Q (F0 m pc ls (.int (zi k) :: .int (zi i) :: .ref b :: rest)) := by
  obtain ⟨hX, -, hXb, hbl, -, hL, -⟩ := hK
  have hbA : ¬ NA s.heap.size b := fun z => by have z : s.heap.size ≤ b := z; omega
  have hbH : b < H.size := Nat.lt_of_lt_of_le hbl hS.1
  have hXH : va_X b L xs s H := va_X.kp hXb (hS.2.1 b hbl hbA)
  refine va_calli (va_runS (As := [.ref b, .int (zi i), .int (zi k)]) (rest := rest) ⟨hX.1.1, hX.1.2.1, hX.2.1, hX.1.2.2.1, hX.1.2.2.2.1⟩ (n_in (l := l) (xs := xs) hL hi hk0 H.size) (cwS 3 hX.1.2.2.2.1 gL_law_L_in rfl rfl rfl (by decide +kernel) ⟨Nat.le_of_ble_eq_true rfl, Nat.le_of_ble_eq_true rfl⟩) ⟨fun a9 U g mk q => by obtain ⟨q0, q1, q2, q3⟩ := q; exact ⟨q0, q1, va_X.mv (u := U) (U := U.calling g mk a9) (Vm.Alike.refl U.vm) q2, q3⟩, fun U hU hWm => ⟨rfl, by rw [hU], va_X.mv hWm.alike (by rw [hU]; exact hXH), by rw [hU]; exact hbH⟩⟩ rfl rfl hls rfl (lv_room hcat) hdg hf) hS (fun q _ h => Nat.le_trans hS.1 h) (fun q h => Nat.le_trans hS.1 h) (fun r u t H1 locs1 ht _ hr _ hz hk hS1 => ?_)
  obtain ⟨k9, r0, r1, rfl⟩ := hr
  exact kk H1 locs1 k9 ⟨r0, r1⟩ (wp_all hW hk) (wp_all hN hk) hS1
theorem l_str (hK : LK p l c s m meth b L xs Dg cA oc a av) (hdg : decode cL_law pc = .ok (.ldc 121, 2)) (kk : W p l e R s m #[Value.ref b] below meth c H locs cells slots Q (F0 m (pc + 2) ls (.ref a :: rest))) : W p l e R s m #[Value.ref b] below meth c H locs cells slots Q (F0 m pc ls rest) :=
  va_ldcS hK.1.1.1 hK.1.1.2.1 hK.1.1.2.2.1 hK.2.2.2.2.2.2.2 hdg kk
theorem l_ch {k : Int} (hK : LK p l c s m meth b L xs Dg cA oc a av) (hk0 : 0 ≤ k ∧ k < 12) (hls : ls.size = 13) (hW : WP Dg ccnt ad1 E H) (hN : WP Dg ncnt ad2 E2 H) (hS : va_S (NA s.heap.size) s.heap H locs) (hf : cells ≤ room_1.cells ∧ slots ≤ room_1.slots) (hcat : (rest.map fun v => v.category).sum ≤ 8) (hdg : decode cL_law pc = .ok (.invokevirtual 123, 3))
    (kk : ∀ (H1 : Heap) (locs1 : List Loc), WP Dg ccnt ad1 E H1 → WP Dg ncnt ad2 E2 H1 → va_S (NA s.heap.size) s.heap H1 locs1 → W p l e room_1 s m #[Value.ref b] below meth c H1 locs1 cells slots Q (F0 m (pc + 3) ls (.int (zi (kch k)) :: rest))) : W p l e room_1 s m #[Value.ref b] below meth c H locs cells slots Q (F0 m pc ls (.int (zi k) :: .ref a :: rest)) := by
  obtain ⟨hX, -, -, -, -, -, hT, -⟩ := hK
  refine va_calli (va_runV (As := [.int (zi k)]) (rest := rest) ⟨hX.1.1, hX.1.2.1, hX.2.1, hX.1.2.2.1, hX.1.2.2.2.1⟩ (j_ch (l := l) hk0 a av H.size) (cwV 1 hX.1.2.2.2.1 gL_law_J0_charAt_5068e rfl rfl rfl (by decide +kernel) ⟨Nat.le_of_ble_eq_true rfl, Nat.le_of_ble_eq_true rfl⟩) ⟨fun a9 U g mk q => by obtain ⟨q0, q1, q2⟩ := q; exact ⟨q0, q1, ST.same (u := U) (U := U.calling g mk a9) (Vm.Alike.refl U.vm) q2⟩, vk_recv (i := 0) hT.1 (by decide) hS, fun U hU hWm => ⟨rfl, by rw [hU], ST.call hT hS (fun q h => by rw [hU] at h; exact Nat.le_trans hS.1 h) hU hWm⟩⟩ rfl rfl hls rfl (lv_room hcat) hdg hf) hS (fun q _ h => Nat.le_trans hS.1 h) (fun q h => Nat.le_trans hS.1 h) (fun r u t H1 locs1 ht _ hr _ hz hk hS1 => ?_)
  have hr : r = zi (kch k) := hr
  subst hr
  exact kk H1 locs1 (wp_all hW hk) (wp_all hN hk) hS1
/-- a number of an array written, and that the rest stays -/
theorem r_iastK (hC : CX p c cc s m args own Ts Dg cA cnt ad A) (hW : WP Dg cnt ad E H) (hS0 : va_S A H0 H locs) {t : Nat} {i : Int} (h0 : 0 ≤ i) (h1 : i < cnt t) {n : Nat} {g : Int → Int} (g' : Int → Int) (he : E t i = .inl (cA 1, n, .inl (fun j => zi (g (j : Int))))) (hn : n < 2147483648) {x y : Int} (hx : 0 ≤ x ∧ x < n) (hg : ∀ j : Int, 0 ≤ j → j < n → g' j = if j = x then y else g j) (hE : upE E t i (.inl (cA 1, n, .inl (fun j => zi (g' (j : Int))))) = E') (hdg : decode cc pc = .ok (.iastore, 1))
    (kk : ∀ (H1 : Heap) (locs1 : List Loc), WP Dg cnt ad E' H1 → va_S A H0 H1 locs1 → (∀ q : Nat, q ≠ ad t i → H1[q]? = H[q]?) → W p l e R s m args below meth c H1 locs1 cells slots Q (F0 m (pc + 1) ls rest)) : W p l e R s m args below meth c H locs cells slots Q (F0 m pc ls (.int (zi y) :: .int (zi x) :: .ref (ad t i) :: rest)) := by
  obtain ⟨hexec, hb, hown, hts, hK, hI, hA⟩ := hC
  refine W.iast hexec hb ((hW.one h0 h1 he) 0 _ rfl) ((hK.2 1 _ rfl).1 n (fun j => .int (zi (g (j : Int))))) (fun q => by cases q) (by show ¬ (zi x < 0 ∨ (arrV _ _ _).slots.size ≤ _); rw [arrV_size]; exact zi_in hx.1 hx.2 hn) rfl rfl hdg fun H1 e9 z oq => ?_
  rw [← hE] at kk
  refine kk H1 _ (hW.set hI h0 h1 ?_ oq) (hS0.put z oq (hA t i h0 h1)) oq
  show H1[ad t i]? = some (vp_cell _ _)
  rw [e9]
  rw [vp_cell_i, vp_cell_i, arrV_store]
  congr 1
  exact arrV_congr (fun j hj => upd_zi hx hn hg j hj)
theorem lr_net {x v : Int} (hK : LK p l c s m meth b L xs Dg cA oc a av) (hA : LA ad1 ad2 s.heap.size) (hN : WP Dg ncnt ad2 (nE cA ad2 τ) H) (hx : 0 ≤ x ∧ x < 1300) (hv : τ 40 x 0 = v) (hdg : decode cL_law pc = .ok (.iaload, 1)) (kk : W p l e R s m #[Value.ref b] below meth c H locs cells slots Q (F0 m (pc + 1) ls (.int (zi v) :: rest))) : W p l e R s m #[Value.ref b] below meth c H locs cells slots Q (F0 m pc ls (.int (zi x) :: .ref (ad2 20 0) :: rest)) :=
  na_net (hK.kn hA).1 hN hx hv hdg kk
theorem lr_h {x v : Int} (hK : LK p l c s m meth b L xs Dg cA oc a av) (hA : LA ad1 ad2 s.heap.size) (hN : WP Dg ncnt ad2 (nE cA ad2 τ) H) (hx : 0 ≤ x ∧ x < 6) (hv : τ 41 x 0 = v) (hdg : decode cL_law pc = .ok (.iaload, 1)) (kk : W p l e R s m #[Value.ref b] below meth c H locs cells slots Q (F0 m (pc + 1) ls (.int (zi v) :: rest))) : W p l e R s m #[Value.ref b] below meth c H locs cells slots Q (F0 m pc ls (.int (zi x) :: .ref (ad2 21 0) :: rest)) :=
  na_h (hK.kn hA).1 hN hx hv hdg kk
theorem lw_net {x v : Int} (hK : LK p l c s m meth b L xs Dg cA oc a av) (hA : LA ad1 ad2 s.heap.size) (hW : WP Dg ccnt ad1 E H) (hN : WP Dg ncnt ad2 (nE cA ad2 τ) H) (hS : va_S (NA s.heap.size) s.heap H locs) (hx : 0 ≤ x ∧ x < 1300) (hdg : decode cL_law pc = .ok (.iastore, 1)) (kk : ∀ (H1 : Heap) (locs1 : List Loc), WP Dg ccnt ad1 E H1 → WP Dg ncnt ad2 (nE cA ad2 (ups τ 40 x 0 v)) H1 → va_S (NA s.heap.size) s.heap H1 locs1 → W p l e R s m #[Value.ref b] below meth c H1 locs1 cells slots Q (F0 m (pc + 1) ls rest)) : W p l e R s m #[Value.ref b] below meth c H locs cells slots Q (F0 m pc ls (.int (zi v) :: .int (zi x) :: .ref (ad2 20 0) :: rest)) :=
  r_iastK (t := 20) (i := 0) (n := 1300) (g := fun j => τ 40 j 0) (hK.kn hA).1 hN hS (by decide) (by decide) (fun j => ups τ 40 x 0 v 40 j 0) rfl (by decide) hx (fun j _ _ => by simp [ups]) rfl hdg (fun H1 locs1 hN1 hS1 oq => kk H1 locs1 (hW.kept (fun t i x z => oq _ (hA.2.2 t i 20 0 x z (by decide) (by decide)))) (nE_40 hN1) hS1)
theorem lw_h {x v : Int} (hK : LK p l c s m meth b L xs Dg cA oc a av) (hA : LA ad1 ad2 s.heap.size) (hW : WP Dg ccnt ad1 E H) (hN : WP Dg ncnt ad2 (nE cA ad2 τ) H) (hS : va_S (NA s.heap.size) s.heap H locs) (hx : 0 ≤ x ∧ x < 6) (hdg : decode cL_law pc = .ok (.iastore, 1)) (kk : ∀ (H1 : Heap) (locs1 : List Loc), WP Dg ccnt ad1 E H1 → WP Dg ncnt ad2 (nE cA ad2 (ups τ 41 x 0 v)) H1 → va_S (NA s.heap.size) s.heap H1 locs1 → W p l e R s m #[Value.ref b] below meth c H1 locs1 cells slots Q (F0 m (pc + 1) ls rest)) : W p l e R s m #[Value.ref b] below meth c H locs cells slots Q (F0 m pc ls (.int (zi v) :: .int (zi x) :: .ref (ad2 21 0) :: rest)) :=
  r_iastK (t := 21) (i := 0) (n := 6) (g := fun j => τ 41 j 0) (hK.kn hA).1 hN hS (by decide) (by decide) (fun j => ups τ 41 x 0 v 41 j 0) rfl (by decide) hx (fun j _ _ => by simp [ups]) rfl hdg (fun H1 locs1 hN1 hS1 oq => kk H1 locs1 (hW.kept (fun t i x z => oq _ (hA.2.2 t i 21 0 x z (by decide) (by decide)))) (nE_41 hN1) hS1)
theorem lg_cmp0 (x : Int64) : lg_cmp x x = zi 0 := by
  have e1 : lg_cmp x x = 0 := by simp [lg_cmp]
  rw [e1]
  rfl
theorem l_lcmp {x y : Int64} (hx : p.tables.exec = Jvm.exec) (hb : c.code = cc) (hxy : x = y) (hdg : decode cc pc = .ok (.lcmp, 1))
    (kk : W p l e R s m args below meth c H locs cells slots Q (F0 m (pc + 1) ls (.int (zi 0) :: rest))) : W p l e R s m args below meth c H locs cells slots Q (F0 m pc ls (.long y :: .long x :: rest)) := by
  subst hxy
  exact W.lcmp hx hb hdg (by rw [lg_cmp0]; exact kk)
theorem l_iand1 (hx : p.tables.exec = Jvm.exec) (hb : c.code = cc) (hdg : decode cc pc = .ok (.iand, 1))
    (kk : W p l e R s m args below meth c H locs cells slots Q (F0 m (pc + 1) ls (.int (zi 1) :: rest))) : W p l e R s m args below meth c H locs cells slots Q (F0 m pc ls (.int (zi 1) :: .int (zi 1) :: rest)) :=
  lv_iand hx hb hdg kk
end LAWB
