section FS
/-- the law's twelve letters -/
abbrev ktx : List Int32 := [115, 115, 119, 103, 118, 108, 99, 112, 112, 115, 100, 102]
def kch (k : Int) : Int := if k = 2 then 119 else if k = 3 then 103 else if k = 4 then 118 else if k = 5 then 108 else if k = 6 then 99 else if k = 7 ∨ k = 8 then 112 else if k = 10 then 100 else if k = 11 then 102 else 115
theorem kch_v {k : Int} (h : 0 ≤ k ∧ k < 12) : (((ktx.getD (zi k).toNatClampNeg 0) &&& 255).toUInt32 % 65536).toInt32 = zi (kch k) := by
  rcases (show k = 0 ∨ k = 1 ∨ k = 2 ∨ k = 3 ∨ k = 4 ∨ k = 5 ∨ k = 6 ∨ k = 7 ∨ k = 8 ∨ k = 9 ∨ k = 10 ∨ k = 11 by omega) with rfl | rfl | rfl | rfl | rfl | rfl | rfl | rfl | rfl | rfl | rfl | rfl <;> decide
theorem kch_in (k : Int) : kch k = 115 ∨ kch k = 119 ∨ kch k = 103 ∨ kch k = 118 ∨ kch k = 108 ∨ kch k = 99 ∨ kch k = 112 ∨ kch k = 100 ∨ kch k = 102 := by
  unfold kch
  omega
/-- the text and the two statics that charAt reads -/
def ST (a av : Nat) (A : Nat → Prop) (U : State) (H : Heap) : Prop := vk_S 1 [12] [ktx] (fun _ => a) (fun _ => av) A U H ∧ va_Z "java/lang/String" "COMPACT_STRINGS" "Z" (.int 1) A U H ∧ va_Zq "jdk/internal/util/Preconditions" "SIOOBE_FORMATTER" "Ljava/util/function/BiFunction;" A U H
theorem ST.call {a av : Nat} {A A1 : Nat → Prop} {s U : State} {H : Heap} {locs : List Loc} (h : ST a av A s s.heap) (hS : va_S A s.heap H locs) (hA : ∀ q, A1 q → A q) (hU : U.heap = H) (hWm : s.WarmedH U.vm) : ST a av A1 U U.heap := by
  obtain ⟨h1, h2, h3⟩ := h
  rw [hU]
  exact ⟨((h1.kept hS.2.1).moved hWm.alike).narrow hA, ((h2.kept hS.2.1).moved hWm.alike).narrow hA, ((h3.kept hS.2.1).moved hWm.alike).narrow hA⟩
theorem ST.same {a av : Nat} {A : Nat → Prop} {u U : State} {H : Heap} (hv : u.vm.Alike U.vm) (h : ST a av A u H) : ST a av A U H := ⟨h.1.moved hv, h.2.1.moved hv, h.2.2.moved hv⟩
variable {p : Program} {l : Launch} {e : Env} {R : Room} {s : State} {m : MethodId} {args : Array Value} {below : List Frame} {meth : Method} {c : Code} {H : Heap} {locs : List Loc} {pc : Nat} {ls : Array Slot} {cc : ByteArray}
theorem x_retz {post : Int32 → Prop} {r : Int32} {ty : FieldType} (hx : p.tables.exec = Jvm.exec) (hb : c.code = cc) (hrt : meth.sig.returnType = some ty) (hty : ty = .char ∨ ty = .boolean) (hn : narrow ty (.int r) = .int r) (hlk : meth.locks = false) (hr : post r) (hS : va_S (NA s.heap.size) s.heap H locs) (hdg : decode cc pc = .ok (.ireturn, 1)) :
    W p l e R s m args below meth c H locs 0 0 (MQ below (XQ s.heap.size post) args s 0 0 (NA s.heap.size)) (F0 m pc ls [.int r]) := by
  rcases hty with rfl | rfl
  · exact W.zret (v := r) hx hb hrt hn (fun t ht _ => ⟨⟨_, (), rfl, hr, trivial⟩, hS.F ht⟩) hS.2.2 hdg hlk
  · exact W.zret (v := r) hx hb hrt hn (fun t ht _ => ⟨⟨_, (), rfl, hr, trivial⟩, hS.F ht⟩) hS.2.2 hdg hlk
end FS
section FSM
abbrev rmJ0 : Room := { frames := 0, cells := 0, slots := 0, locals := 0 }
abbrev rmJ1 : Room := { frames := 1, cells := 0, slots := 0, locals := 22 }
abbrev rmJ2 : Room := { frames := 2, cells := 0, slots := 0, locals := 43 }
abbrev rmJ3 : Room := { frames := 3, cells := 0, slots := 0, locals := 64 }
theorem j_ck3 {l : Launch} {i n : Int} (hi : 0 ≤ i ∧ i < n) (hn : n < 100000) {v : Value} (hv : v = .null ∨ ∃ t : Nat, v = .ref t) (sz : Nat) : Met l yJ3_checkIndex_8e157 wsJ3_checkIndex_8e157 rmJ0 (va_Pc [.int (zi i), .int (zi n), v] (fun U => U.heap.size = sz ∧ True)) (XQ sz (fun _ => True)) 0 0 (NA sz) := by
  have hlen : (lg_sl [.int (zi i), .int (zi n), v]).length ≤ 3 := by rcases hv with rfl | ⟨t, rfl⟩ <;> exact Nat.le_of_ble_eq_true rfl
  refine x_entF (cc := cJ3_checkIndex_8e157) (maxL := 3) (ret := some .int) (by decide +kernel) rfl hlen ?_
  intro p e s m below meth c hx hb hown hts hml hrt hlk hsz hP ls hl
  subst hsz
  have hS : va_S (NA s.heap.size) s.heap s.heap [] := va_S.rf
  have hl : lv_has ls 3 [(0, .int (zi i)), (1, .int (zi n))] := by
    rcases hv with rfl | ⟨t, rfl⟩
    · exact lv_sub (show lv_has ls 3 [(0, .int (zi i)), (1, .int (zi n)), (2, .null)] from hl) [0, 1] rfl
    · exact lv_sub (show lv_has ls 3 [(0, .int (zi i)), (1, .int (zi n)), (2, .ref t)] from hl) [0, 1] rfl
  refine lv_iload_n hx hb dJ3_checkIndex_8e157_0 rfl (lv_at hl 0 rfl) ?_
  refine lv_if_lt (tgt := 9) hx hb dJ3_checkIndex_8e157_1 (by decide) (fun z => ?_) (fun _ => ?_)
  · exact absurd ((zi_lt (a := i) ⟨by omega, by omega⟩ sm0).mp (by rw [← z0]; exact z)) (by omega)
  refine lv_iload_n hx hb dJ3_checkIndex_8e157_4 rfl (lv_at hl 0 rfl) ?_
  refine lv_iload_n hx hb dJ3_checkIndex_8e157_5 rfl (lv_at hl 1 rfl) ?_
  refine lv_icmp_lt (tgt := 16) hx hb dJ3_checkIndex_8e157_6 (by decide) (fun _ => ?_) (fun z => absurd ((zi_lt ⟨by omega, by omega⟩ ⟨by omega, by omega⟩).mpr hi.2) z)
  refine lv_iload_n hx hb dJ3_checkIndex_8e157_16 rfl (lv_at hl 0 rfl) ?_
  exact x_ret (rt := .int) hx hb hrt hlk trivial hS dJ3_checkIndex_8e157_17
abbrev XV (sz : Nat) : Array Value → State → Outcome → State → Prop := va_Qv (fun _ : Unit => True) (fun (_ : Unit) (_ : State) => True) (NA sz)
theorem j_ck0 {l : Launch} {i n : Int} (hi : 0 ≤ i ∧ i < n) (hn : n < 100000) (a av sz : Nat) : Met l yJ0_checkIndex_df160 wsJ0_checkIndex_df160 rmJ1 (va_Pc [.int (zi i), .int (zi n)] (fun U => U.heap.size = sz ∧ ST a av (NA U.heap.size) U U.heap)) (XV sz) 0 0 (NA sz) := by
  refine x_entF (cc := cJ0_checkIndex_df160) (maxL := 2) (ret := none) (by decide +kernel) rfl (Nat.le_of_ble_eq_true rfl) ?_
  intro p e s m below meth c hx hb hown hts hml hrt hlk hsz hP ls hl
  subst hsz
  have hS : va_S (NA s.heap.size) s.heap s.heap [] := va_S.rf
  have hl : lv_has ls 2 [(0, .int (zi i)), (1, .int (zi n))] := hl
  refine lv_iload_n hx hb dJ0_checkIndex_df160_0 rfl (lv_at hl 0 rfl) ?_
  refine lv_iload_n hx hb dJ0_checkIndex_df160_1 rfl (lv_at hl 1 rfl) ?_
  obtain ⟨v, hv, hZ⟩ : ∃ v : Value, (v = .null ∨ ∃ t : Nat, v = .ref t) ∧ va_Z "jdk/internal/util/Preconditions" "SIOOBE_FORMATTER" "Ljava/util/function/BiFunction;" v (NA s.heap.size) s s.heap := by
    rcases hP.2.2 with h | ⟨t, h⟩
    · exact ⟨_, Or.inl rfl, h⟩
    · exact ⟨_, Or.inr ⟨t, rfl⟩, h⟩
  refine va_gets hx hb hZ hS hown (hts (.fieldLink RJ0 1053 "jdk/internal/util/Preconditions" "SIOOBE_FORMATTER" "Ljava/util/function/BiFunction;") (by decide +kernel)) (fun _ h => h) dJ0_checkIndex_df160_2 ?_
  refine va_calli (va_runS (As := [.int (zi i), .int (zi n), v]) (rest := []) ⟨hx, hb, hml, hown, hts⟩ (j_ck3 (l := l) hi hn hv s.heap.size) (va_cwS 3 hts gJ0_checkIndex_df160_J3_checkIndex_8e157 rfl rfl rfl (by decide +kernel) ⟨Nat.le_of_ble_eq_true rfl, Nat.le_of_ble_eq_true rfl⟩) ⟨fun a U g mk q => q, fun U hU hWm => ⟨rfl, by rw [hU], trivial⟩⟩ rfl rfl hl.1 rfl (lv_room (Nat.le_of_ble_eq_true rfl)) dJ0_checkIndex_df160_5 ⟨Nat.zero_le _, Nat.zero_le _⟩) hS (fun q _ h => h) (fun q h => h) (fun r u t H1 locs1 ht _ _ _ hz hk hS => ?_)
  refine lv_pop hx hb dJ0_checkIndex_df160_8 rfl ?_
  exact W.vret hx hb hrt (fun t ht _ => ⟨⟨(), rfl, trivial, trivial⟩, hS.F ht⟩) hS.2.2 dJ0_checkIndex_df160_9 hlk
theorem j_ch1 {l : Launch} {k : Int} (hk : 0 ≤ k ∧ k < 12) (a av sz : Nat) : Met l yJ1_charAt_3b067 wsJ1_charAt_3b067 rmJ2 (va_Pc [.ref av, .int (zi k)] (fun U => U.heap.size = sz ∧ ST a av (NA U.heap.size) U U.heap)) (XQ sz (fun r => r = zi (kch k))) 0 0 (NA sz) := by
  refine x_entF (cc := cJ1_charAt_3b067) (maxL := 2) (ret := some .char) (by decide +kernel) rfl (Nat.le_of_ble_eq_true rfl) ?_
  intro p e s m below meth c hx hb hown hts hml hrt hlk hsz hP ls hl
  subst hsz
  have hS : va_S (NA s.heap.size) s.heap s.heap [] := va_S.rf
  have hl : lv_has ls 2 [(0, .ref av), (1, .int (zi k))] := hl
  have hT : va_T .byte av 12 (fun j => .int (ktx.getD j 0)) (NA s.heap.size) s s.heap := (hP.1.1 0 (by decide)).2.2.2
  refine lv_iload_n hx hb dJ1_charAt_3b067_0 rfl (lv_at hl 1 rfl) ?_
  refine lv_aload_n hx hb dJ1_charAt_3b067_1 rfl (lv_at hl 0 rfl) ?_
  refine va_tlen hx hb hT hS (v := zi 12) rfl dJ1_charAt_3b067_2 ?_
  refine va_callv (va_runS (As := [.int (zi k), .int (zi 12)]) (rest := []) ⟨hx, hb, hml, hown, hts⟩ (j_ck0 (l := l) hk (by decide) a av s.heap.size) (va_cwS 2 hts gJ1_charAt_3b067_J0_checkIndex_df160 rfl rfl rfl (by decide +kernel) ⟨Nat.le_of_ble_eq_true rfl, Nat.le_of_ble_eq_true rfl⟩) ⟨fun a9 U g mk q => by obtain ⟨q0, q1, q2⟩ := q; exact ⟨q0, q1, ST.same (u := U) (U := U.calling g mk a9) (Vm.Alike.refl U.vm) q2⟩, fun U hU hWm => ⟨rfl, by rw [hU], ST.call hP hS (fun q h => by rw [hU] at h; exact h) hU hWm⟩⟩ rfl rfl hl.1 rfl (lv_room (Nat.le_of_ble_eq_true rfl)) dJ1_charAt_3b067_3 ⟨Nat.zero_le _, Nat.zero_le _⟩) hS (fun q _ h => h) (fun q h => h) (fun u t H1 locs1 ht _ _ _ hz hk9 hS => ?_)
  refine lv_aload_n hx hb dJ1_charAt_3b067_6 rfl (lv_at hl 0 rfl) ?_
  refine lv_iload_n hx hb dJ1_charAt_3b067_7 rfl (lv_at hl 1 rfl) ?_
  refine va_tb hx hb hT hS (zi_in hk.1 hk.2 (by decide)) rfl dJ1_charAt_3b067_8 ?_
  refine lv_sipush (v := 255) hx hb dJ1_charAt_3b067_9 (by decide) ?_
  refine lv_iand hx hb dJ1_charAt_3b067_12 ?_
  refine lv_i2c hx hb dJ1_charAt_3b067_13 (kch_v hk) ?_
  exact x_retz (ty := .char) hx hb hrt (Or.inl rfl) (by rcases kch_in k with h | h | h | h | h | h | h | h | h <;> rw [h] <;> decide) hlk rfl hS dJ1_charAt_3b067_14
theorem j_isl {l : Launch} (a av sz : Nat) : Met l yJ0_isLatin1_aae02 wsJ0_isLatin1_aae02 rmJ0 (va_Pc [.ref a] (fun U => U.heap.size = sz ∧ ST a av (NA U.heap.size) U U.heap)) (XQ sz (fun r => r = 1)) 0 0 (NA sz) := by
  refine x_entF (cc := cJ0_isLatin1_aae02) (maxL := 1) (ret := some .boolean) (by decide +kernel) rfl (Nat.le_of_ble_eq_true rfl) ?_
  intro p e s m below meth c hx hb hown hts hml hrt hlk hsz hP ls hl
  subst hsz
  have hS : va_S (NA s.heap.size) s.heap s.heap [] := va_S.rf
  have hl : lv_has ls 1 [(0, .ref a)] := hl
  refine va_gets hx hb hP.2.1 hS hown (hts (.fieldLink RJ0 38 "java/lang/String" "COMPACT_STRINGS" "Z") (by decide +kernel)) (fun _ h => h) dJ0_isLatin1_aae02_0 ?_
  refine lv_if_eq (tgt := 17) hx hb dJ0_isLatin1_aae02_3 (by decide) (fun z => absurd z (by decide)) (fun _ => ?_)
  refine lv_aload_n hx hb dJ0_isLatin1_aae02_6 rfl (lv_at hl 0 rfl) ?_
  refine vk_getf hx hb (hP.1.1 0 (by decide)).2.1 hS hown (hts (.fieldLink RJ0 15 "java/lang/String" "coder" "B") (by decide +kernel)) (fun _ h => h) dJ0_isLatin1_aae02_7 ?_
  refine lv_if_ne (tgt := 17) hx hb dJ0_isLatin1_aae02_10 (by decide) (fun z => absurd rfl z) (fun _ => ?_)
  refine lv_iconst (v := 1) hx hb dJ0_isLatin1_aae02_13 (by decide) ?_
  refine lv_goto (tgt := 18) hx hb dJ0_isLatin1_aae02_14 (by decide) ?_
  exact x_retz (ty := .boolean) hx hb hrt (Or.inr rfl) (by decide) hlk rfl hS dJ0_isLatin1_aae02_18
theorem j_ch {l : Launch} {k : Int} (hk : 0 ≤ k ∧ k < 12) (a av sz : Nat) : Met l yJ0_charAt_5068e wsJ0_charAt_5068e rmJ3 (va_Pc [.ref a, .int (zi k)] (fun U => U.heap.size = sz ∧ ST a av (NA U.heap.size) U U.heap)) (XQ sz (fun r => r = zi (kch k))) 0 0 (NA sz) := by
  refine x_entF (cc := cJ0_charAt_5068e) (maxL := 2) (ret := some .char) (by decide +kernel) rfl (Nat.le_of_ble_eq_true rfl) ?_
  intro p e s m below meth c hx hb hown hts hml hrt hlk hsz hP ls hl
  subst hsz
  have hS : va_S (NA s.heap.size) s.heap s.heap [] := va_S.rf
  have hl : lv_has ls 2 [(0, .ref a), (1, .int (zi k))] := hl
  refine lv_aload_n hx hb dJ0_charAt_5068e_0 rfl (lv_at hl 0 rfl) ?_
  refine va_calli (va_runV (As := []) (rest := []) ⟨hx, hb, hml, hown, hts⟩ (j_isl (l := l) a av s.heap.size) (cwV 0 hts gJ0_charAt_5068e_J0_isLatin1_aae02 rfl rfl rfl (by decide +kernel) ⟨Nat.le_of_ble_eq_true rfl, Nat.le_of_ble_eq_true rfl⟩) ⟨fun a9 U g mk q => by obtain ⟨q0, q1, q2⟩ := q; exact ⟨q0, q1, ST.same (u := U) (U := U.calling g mk a9) (Vm.Alike.refl U.vm) q2⟩, vk_recv (i := 0) hP.1 (by decide) hS, fun U hU hWm => ⟨rfl, by rw [hU], ST.call hP hS (fun q h => by rw [hU] at h; exact h) hU hWm⟩⟩ rfl rfl hl.1 rfl (lv_room (Nat.le_of_ble_eq_true rfl)) dJ0_charAt_5068e_1 ⟨Nat.zero_le _, Nat.zero_le _⟩) hS (fun q _ h => h) (fun q h => h) (fun r u t H1 locs1 ht _ hr _ hz hk9 hS => ?_)
  have hr : r = 1 := hr
  subst hr
  refine lv_if_eq (tgt := 16) hx hb dJ0_charAt_5068e_4 (by decide) (fun z => absurd z (by decide)) (fun _ => ?_)
  refine lv_aload_n hx hb dJ0_charAt_5068e_7 rfl (lv_at hl 0 rfl) ?_
  refine vk_getf hx hb (hP.1.1 0 (by decide)).2.2.1 hS hown (hts (.fieldLink RJ0 9 "java/lang/String" "value" "[B") (by decide +kernel)) (fun _ h => h) dJ0_charAt_5068e_8 ?_
  refine lv_iload_n hx hb dJ0_charAt_5068e_11 rfl (lv_at hl 1 rfl) ?_
  refine va_calli (va_runS (As := [.ref av, .int (zi k)]) (rest := []) ⟨hx, hb, hml, hown, hts⟩ (j_ch1 (l := l) hk a av H1.size) (va_cwS 2 hts gJ0_charAt_5068e_J1_charAt_3b067 rfl rfl rfl (by decide +kernel) ⟨Nat.le_of_ble_eq_true rfl, Nat.le_of_ble_eq_true rfl⟩) ⟨fun a9 U g mk q => by obtain ⟨q0, q1, q2⟩ := q; exact ⟨q0, q1, ST.same (u := U) (U := U.calling g mk a9) (Vm.Alike.refl U.vm) q2⟩, fun U hU hWm => ⟨rfl, by rw [hU], ST.call hP hS (fun q h => by rw [hU] at h; exact Nat.le_trans hS.1 h) hU hWm⟩⟩ rfl rfl hl.1 rfl (lv_room (Nat.le_of_ble_eq_true rfl)) dJ0_charAt_5068e_12 ⟨Nat.zero_le _, Nat.zero_le _⟩) hS (fun q _ h => Nat.le_trans hS.1 h) (fun q h => Nat.le_trans hS.1 h) (fun r u t H2 locs2 ht _ hr _ hz hk9 hS => ?_)
  have hr : r = zi (kch k) := hr
  subst hr
  exact x_retz (ty := .char) hx hb hrt (Or.inl rfl) (by rcases kch_in k with h | h | h | h | h | h | h | h | h <;> rw [h] <;> decide) hlk rfl hS dJ0_charAt_5068e_15
end FSM
