section START0
variable {s : State} {args : Array Value} {b : Nat}
theorem ar_prim {ty : FieldType} (h : (Cond.arrayClass ty).before args s = true) (hp : ty = .char ∨ ty = .int ∨ ty = .boolean ∨ ty = .long ∨ ty = .double) : ∃ c : ClassId, ArrOfT s c ty ∧ va_RA s c ty := by
  obtain ⟨c, k, comp, h1, h2, h3⟩ := Cond.arrayClass_spec h
  refine ⟨c, fun N z => ⟨(fun k h => by cases h), k, h2, comp, h3⟩, ?_⟩
  rcases hp with rfl | rfl | rfl | rfl | rfl <;> exact h1
theorem ar_obj {C : String} (h : (Cond.arrayOver (.object C)).before args s = true) : ∃ c : ClassId, ArrOfT s c (.object C) ∧ va_RA s c (.object C) := by
  obtain ⟨comp, c, k, h1, h2, h3, h4, h5⟩ := Cond.arrayOver_spec h
  exact ⟨c, fun N z => ⟨(fun k h => by cases h), k, h3, comp, h4⟩, k, comp, h3, h4, h1, h5⟩
set_option maxHeartbeats 4000000 in
theorem st_K (hts : ∀ w ∈ lw_tbl, w.before args s = true) : ∃ (Dg : va_G) (cA : Nat → ClassId), va_K Dg vwCl (tyL cA) s := by
  obtain ⟨c0, i0, k0⟩ := u_known (C := RJ0) (T := TJ0) (N := 2) (n := 4) hts inJ0 (hts (.instantiable RJ0 4) (by decide +kernel))
  obtain ⟨c1, i1, k1⟩ := u_known (C := RJx00060) (T := TJx00060) (N := 6) (n := 6) hts inJx00060 (hts (.instantiable RJx00060 6) (by decide +kernel))
  obtain ⟨c2, i2, k2⟩ := u_known (C := RX0) (T := TX0) (N := 2) (n := 2) hts inX0 (hts (.instantiable RX0 2) (by decide +kernel))
  obtain ⟨c3, i3, k3⟩ := u_known (C := RX1) (T := TX1) (N := 5) (n := 5) hts inX1 (hts (.instantiable RX1 5) (by decide +kernel))
  obtain ⟨c4, i4, k4⟩ := u_known (C := RX3) (T := TX3) (N := 9) (n := 9) hts inX3 (hts (.instantiable RX3 9) (by decide +kernel))
  obtain ⟨c5, i5, k5⟩ := u_known (C := RX4) (T := TX4) (N := 2) (n := 2) hts inX4 (hts (.instantiable RX4 2) (by decide +kernel))
  obtain ⟨c6, i6, k6⟩ := u_known (C := RX5) (T := TX5) (N := 3) (n := 3) hts inX5 (hts (.instantiable RX5 3) (by decide +kernel))
  obtain ⟨c7, i7, k7⟩ := u_known (C := RX6) (T := TX6) (N := 4) (n := 4) hts inX6 (hts (.instantiable RX6 4) (by decide +kernel))
  obtain ⟨c8, i8, k8⟩ := u_known (C := RX7) (T := TX7) (N := 9) (n := 9) hts inX7 (hts (.instantiable RX7 9) (by decide +kernel))
  obtain ⟨a0, p0, q0⟩ := ar_prim (ty := .char) (hts (.arrayClass .char) (by decide +kernel)) (by simp)
  obtain ⟨a1, p1, q1⟩ := ar_prim (ty := .int) (hts (.arrayClass .int) (by decide +kernel)) (by simp)
  obtain ⟨a2, p2, q2⟩ := ar_prim (ty := .boolean) (hts (.arrayClass .boolean) (by decide +kernel)) (by simp)
  obtain ⟨a3, p3, q3⟩ := ar_obj (C := RX5) (hts (.arrayOver (.object RX5)) (by decide +kernel))
  obtain ⟨a4, p4, q4⟩ := ar_obj (C := RX1) (hts (.arrayOver (.object RX1)) (by decide +kernel))
  obtain ⟨a5, p5, q5⟩ := ar_obj (C := RX3) (hts (.arrayOver (.object RX3)) (by decide +kernel))
  obtain ⟨a6, p6, q6⟩ := ar_obj (C := RX0) (hts (.arrayOver (.object RX0)) (by decide +kernel))
  obtain ⟨a7, p7, q7⟩ := ar_obj (C := RX6) (hts (.arrayOver (.object RX6)) (by decide +kernel))
  have hC : ∀ (c : Nat) (q : vw_C), vwCl[c]? = some q → u_Kn s q.1 q.2.1 q.2.2 ((fun k : Nat => match k with | 0 => c0 | 1 => c1 | 2 => c2 | 3 => c3 | 4 => c4 | 5 => c5 | 6 => c6 | 7 => c7 | _ => c8) c) ((fun k : Nat => match k with | 0 => i0 | 1 => i1 | 2 => i2 | 3 => i3 | 4 => i4 | 5 => i5 | 6 => i6 | 7 => i7 | _ => i8) c) := by
    intro c q hq
    match c, hq with
    | 0, hq => cases hq; exact k0
    | 1, hq => cases hq; exact k1
    | 2, hq => cases hq; exact k2
    | 3, hq => cases hq; exact k3
    | 4, hq => cases hq; exact k4
    | 5, hq => cases hq; exact k5
    | 6, hq => cases hq; exact k6
    | 7, hq => cases hq; exact k7
    | 8, hq => cases hq; exact k8
    | c + 9, hq => exact absurd hq (by simp [vwCl])
  refine ⟨((fun k => match k with | 0 => c0 | 1 => c1 | 2 => c2 | 3 => c3 | 4 => c4 | 5 => c5 | 6 => c6 | 7 => c7 | _ => c8), (fun k => match k with | 0 => i0 | 1 => i1 | 2 => i2 | 3 => i3 | 4 => i4 | 5 => i5 | 6 => i6 | 7 => i7 | _ => i8)), (fun k => match k with | 0 => a0 | 1 => a1 | 2 => a2 | 3 => a3 | 4 => a4 | 5 => a5 | 6 => a6 | _ => a7), ⟨hC, fun k q hk => ?_⟩⟩
  · match k, hk with
    | 0, hk => cases hk; exact ⟨p0, q0⟩
    | 1, hk => cases hk; exact ⟨p1, q1⟩
    | 2, hk => cases hk; exact ⟨p2, q2⟩
    | 3, hk => cases hk; exact ⟨p3, q3⟩
    | 4, hk => cases hk; exact ⟨p4, q4⟩
    | 5, hk => cases hk; exact ⟨p5, q5⟩
    | 6, hk => cases hk; exact ⟨p6, q6⟩
    | 7, hk => cases hk; exact ⟨p7, q7⟩
    | k + 8, hk => exact absurd hk (by simp [tyL])
theorem st_AOW (hts : ∀ w ∈ lw_tbl, w.before args s = true) : AOW s := by
  refine ⟨fun C hC => ?_, fun w hw => ?_⟩
  · simp only [aoL, List.mem_cons, List.not_mem_nil, or_false] at hC
    rcases hC with rfl | rfl | rfl | rfl | rfl
    · exact va_AO.of (hts (.arrayOver (.object "KioskReel$Reel")) (by decide +kernel))
    · exact va_AO.of (hts (.arrayOver (.object "KioskReel$Kiosk")) (by decide +kernel))
    · exact va_AO.of (hts (.arrayOver (.object "KioskReel$Player")) (by decide +kernel))
    · exact va_AO.of (hts (.arrayOver (.object "KioskReel$Device")) (by decide +kernel))
    · exact va_AO.of (hts (.arrayOver (.object "KioskReel$Visitor")) (by decide +kernel))
  · have hq : w ∈ lw_tbl := (by decide +kernel : ∀ w ∈ nwL, w ∈ lw_tbl) w hw
    have h1 := hts w hq
    simp only [nwL, List.mem_cons, List.not_mem_nil, or_false] at hw
    rcases hw with rfl | rfl | rfl | rfl | rfl | rfl | rfl <;> exact va_Nw.of rfl h1
theorem st_Nc (hgv : (Jvm.Cond.and given_1 narrow_1).before args s = true) : ∀ q ∈ ncL, va_Nc q.1 q.2 s := by
  have hs := flat_of_before _ hgv
  intro q hq
  simp only [ncL, List.mem_cons, List.not_mem_nil, or_false] at hq
  rcases hq with rfl | rfl | rfl | rfl
  · exact va_Nc.of (hs (.not (.castable "java/lang/IllegalArgumentException" "java/lang/IndexOutOfBoundsException")) (by decide +kernel))
  · exact va_Nc.of (hs (.not (.castable "java/lang/IllegalStateException" "java/lang/IndexOutOfBoundsException")) (by decide +kernel))
  · exact va_Nc.of (hs (.not (.castable "java/lang/IllegalStateException" "java/lang/IllegalArgumentException")) (by decide +kernel))
  · exact va_Nc.of (hs (.not (.castable "java/util/NoSuchElementException" "java/lang/IndexOutOfBoundsException")) (by decide +kernel))
set_option maxHeartbeats 4000000 in
theorem st_ENV (hts : ∀ w ∈ lw_tbl, w.before args s = true) (hgv : (Jvm.Cond.and given_1 narrow_1).before args s = true) : ∃ oc : Nat → Nat, ENV oc (NA s.heap.size) s s.heap := by
  have hs := flat_of_before _ hgv
  have hA : ∀ a : Nat, a < s.heap.size → ¬ NA s.heap.size a := fun a h z => by have z : s.heap.size ≤ a := z; omega
  obtain ⟨o0, _, _, _, e0, -⟩ := Cond.exactly_spec (hs (.exactly (.static "KioskReel$Outcome" "GOES_ON" "LKioskReel$Outcome;") "KioskReel$Outcome") (by decide +kernel))
  obtain ⟨o1, _, _, _, e1, -⟩ := Cond.exactly_spec (hs (.exactly (.static "KioskReel$Outcome" "SHOWN" "LKioskReel$Outcome;") "KioskReel$Outcome") (by decide +kernel))
  obtain ⟨o2, _, _, _, e2, -⟩ := Cond.exactly_spec (hs (.exactly (.static "KioskReel$Outcome" "ENDS_TURN" "LKioskReel$Outcome;") "KioskReel$Outcome") (by decide +kernel))
  refine ⟨fun k => match k with | 0 => o0 | 1 => o1 | _ => o2, ?_, ?_, ?_, ⟨?_, ?_, ?_⟩, ?_, ?_, ?_, ?_⟩
  · exact va_Zof (hts (.laysStatic "KioskReel$Outcome" "GOES_ON" "LKioskReel$Outcome;") (by decide +kernel)) (hts (.initialized "KioskReel$Outcome") (by decide +kernel)) e0 hA
  · exact va_Zof (hts (.laysStatic "KioskReel$Outcome" "SHOWN" "LKioskReel$Outcome;") (by decide +kernel)) (hts (.initialized "KioskReel$Outcome") (by decide +kernel)) e1 hA
  · exact va_Zof (hts (.laysStatic "KioskReel$Outcome" "ENDS_TURN" "LKioskReel$Outcome;") (by decide +kernel)) (hts (.initialized "KioskReel$Outcome") (by decide +kernel)) e2 hA
  · exact va_neR (hs (.not (.eq (.static "KioskReel$Outcome" "GOES_ON" "LKioskReel$Outcome;") (.static "KioskReel$Outcome" "SHOWN" "LKioskReel$Outcome;"))) (by decide +kernel)) e0 e1
  · exact va_neR (hs (.not (.eq (.static "KioskReel$Outcome" "GOES_ON" "LKioskReel$Outcome;") (.static "KioskReel$Outcome" "ENDS_TURN" "LKioskReel$Outcome;"))) (by decide +kernel)) e0 e2
  · exact va_neR (hs (.not (.eq (.static "KioskReel$Outcome" "SHOWN" "LKioskReel$Outcome;") (.static "KioskReel$Outcome" "ENDS_TURN" "LKioskReel$Outcome;"))) (by decide +kernel)) e1 e2
  · exact vx_Zqof (hts (.laysStatic Bundle.tN "UNASSIGNED_STACK" Bundle.steD) (by decide +kernel)) (hts (.initialized Bundle.tN) (by decide +kernel)) (hs (.isRef (.static Bundle.tN "UNASSIGNED_STACK" Bundle.steD)) (by decide +kernel)) hA
  · exact vx_Zqof (hts (.laysStatic Bundle.tN "SUPPRESSED_SENTINEL" Bundle.listD) (by decide +kernel)) (hts (.initialized Bundle.tN) (by decide +kernel)) (hs (.isRef (.static Bundle.tN "SUPPRESSED_SENTINEL" Bundle.listD)) (by decide +kernel)) hA
  · intro q hq
    simp only [strL, List.mem_cons, List.not_mem_nil, or_false] at hq
    rcases hq with rfl | rfl | rfl | rfl | rfl | rfl | rfl | rfl | rfl | rfl | rfl | rfl | rfl | rfl
    · obtain ⟨a, _, _, _, e, -⟩ := Cond.exactly_spec (hs (.exactly (.string "KioskReel" 50) "java/lang/String") (by decide +kernel))
      exact ⟨a, vk_R.of (hts (.stringRef "KioskReel" 50 "there are 8 lists") (by decide +kernel)) e⟩
    · obtain ⟨a, _, _, _, e, -⟩ := Cond.exactly_spec (hs (.exactly (.string "KioskReel" 64) "java/lang/String") (by decide +kernel))
      exact ⟨a, vk_R.of (hts (.stringRef "KioskReel" 64 "no such place") (by decide +kernel)) e⟩
    · obtain ⟨a, _, _, _, e, -⟩ := Cond.exactly_spec (hs (.exactly (.string "KioskReel" 80) "java/lang/String") (by decide +kernel))
      exact ⟨a, vk_R.of (hts (.stringRef "KioskReel" 80 "the number is out of its range") (by decide +kernel)) e⟩
    · obtain ⟨a, _, _, _, e, -⟩ := Cond.exactly_spec (hs (.exactly (.string "KioskReel" 83) "java/lang/String") (by decide +kernel))
      exact ⟨a, vk_R.of (hts (.stringRef "KioskReel" 83 "the list has 20 lines") (by decide +kernel)) e⟩
    · obtain ⟨a, _, _, _, e, -⟩ := Cond.exactly_spec (hs (.exactly (.string "KioskReel" 102) "java/lang/String") (by decide +kernel))
      exact ⟨a, vk_R.of (hts (.stringRef "KioskReel" 102 "there are 6 kiosks") (by decide +kernel)) e⟩
    · obtain ⟨a, _, _, _, e, -⟩ := Cond.exactly_spec (hs (.exactly (.string "KioskReel" 111) "java/lang/String") (by decide +kernel))
      exact ⟨a, vk_R.of (hts (.stringRef "KioskReel" 111 "the kiosk has a player") (by decide +kernel)) e⟩
    · obtain ⟨a, _, _, _, e, -⟩ := Cond.exactly_spec (hs (.exactly (.string "KioskReel" 167) "java/lang/String") (by decide +kernel))
      exact ⟨a, vk_R.of (hts (.stringRef "KioskReel" 167 "no such player") (by decide +kernel)) e⟩
    · obtain ⟨a, _, _, _, e, -⟩ := Cond.exactly_spec (hs (.exactly (.string "KioskReel" 190) "java/lang/String") (by decide +kernel))
      exact ⟨a, vk_R.of (hts (.stringRef "KioskReel" 190 "the number of ticks is out of range") (by decide +kernel)) e⟩
    · obtain ⟨a, _, _, _, e, -⟩ := Cond.exactly_spec (hs (.exactly (.string "KioskReel" 201) "java/lang/String") (by decide +kernel))
      exact ⟨a, vk_R.of (hts (.stringRef "KioskReel" 201 "no slide was shown") (by decide +kernel)) e⟩
    · obtain ⟨a, _, _, _, e, -⟩ := Cond.exactly_spec (hs (.exactly (.string "KioskReel" 245) "java/lang/String") (by decide +kernel))
      exact ⟨a, vk_R.of (hts (.stringRef "KioskReel" 245 "there are no visitors") (by decide +kernel)) e⟩
    · obtain ⟨a, _, _, _, e, -⟩ := Cond.exactly_spec (hs (.exactly (.string "KioskReel" 258) "java/lang/String") (by decide +kernel))
      exact ⟨a, vk_R.of (hts (.stringRef "KioskReel" 258 "no such list") (by decide +kernel)) e⟩
    · obtain ⟨a, _, _, _, e, -⟩ := Cond.exactly_spec (hs (.exactly (.string "KioskReel" 260) "java/lang/String") (by decide +kernel))
      exact ⟨a, vk_R.of (hts (.stringRef "KioskReel" 260 "no such kiosk") (by decide +kernel)) e⟩
    · obtain ⟨a, _, _, _, e, -⟩ := Cond.exactly_spec (hs (.exactly (.string "KioskReel" 262) "java/lang/String") (by decide +kernel))
      exact ⟨a, vk_R.of (hts (.stringRef "KioskReel" 262 "the kiosk has no player") (by decide +kernel)) e⟩
    · obtain ⟨a, _, _, _, e, -⟩ := Cond.exactly_spec (hs (.exactly (.string "KioskReel" 270) "java/lang/String") (by decide +kernel))
      exact ⟨a, vk_R.of (hts (.stringRef "KioskReel" 270 "no such kind") (by decide +kernel)) e⟩
  · exact xb_move (u := s) (as := args) (Vm.Alike.refl _) (fun w hw => hts w ((by decide +kernel : ∀ w ∈ xbL, w ∈ lw_tbl) w hw))
set_option maxHeartbeats 4000000 in
theorem st_ST (hts : ∀ w ∈ lw_tbl, w.before args s = true) (hgv : (Jvm.Cond.and given_1 narrow_1).before args s = true) : ∃ a av : Nat, ST a av (NA s.heap.size) s s.heap ∧ vk_R "KioskReelLaw" 121 "sswgvlcppsdf" a s := by
  have hs := flat_of_before _ hgv
  have hA : ∀ a : Nat, a < s.heap.size → ¬ NA s.heap.size a := fun a h z => by have z : s.heap.size ≤ a := z; omega
  have hle : ∀ i : Nat, i < 1 → (Cond.eq (.length (.field (.string "KioskReelLaw" 121) "java/lang/String" "value" "[B")) (.int (Int32.ofNat (([12] : List Nat).getD i 0)))).before args s = true := fun i hi => by
    have hi0 : i = 0 := by omega
    subst hi0
    exact hs (.eq (.length (.field (.string "KioskReelLaw" 121) "java/lang/String" "value" "[B")) (.int 12)) (by decide +kernel)
  have hel : ∀ i : Nat, i < 1 → ∀ j : Nat, j < ([12] : List Nat).getD i 0 → (Cond.eq (.elem (.field (.string "KioskReelLaw" 121) "java/lang/String" "value" "[B") (.int (Int32.ofNat j))) (.int ((([ktx] : List (List Int32)).getD i []).getD j 0))).before args s = true := fun i hi j hj => by
    have hi0 : i = 0 := by omega
    subst hi0
    have hj : j < 12 := hj
    match j, hj with
    | 0, _ => exact hs (.eq (.elem (.field (.string "KioskReelLaw" 121) "java/lang/String" "value" "[B") (.int 0)) (.int 115)) (by decide +kernel)
    | 1, _ => exact hs (.eq (.elem (.field (.string "KioskReelLaw" 121) "java/lang/String" "value" "[B") (.int 1)) (.int 115)) (by decide +kernel)
    | 2, _ => exact hs (.eq (.elem (.field (.string "KioskReelLaw" 121) "java/lang/String" "value" "[B") (.int 2)) (.int 119)) (by decide +kernel)
    | 3, _ => exact hs (.eq (.elem (.field (.string "KioskReelLaw" 121) "java/lang/String" "value" "[B") (.int 3)) (.int 103)) (by decide +kernel)
    | 4, _ => exact hs (.eq (.elem (.field (.string "KioskReelLaw" 121) "java/lang/String" "value" "[B") (.int 4)) (.int 118)) (by decide +kernel)
    | 5, _ => exact hs (.eq (.elem (.field (.string "KioskReelLaw" 121) "java/lang/String" "value" "[B") (.int 5)) (.int 108)) (by decide +kernel)
    | 6, _ => exact hs (.eq (.elem (.field (.string "KioskReelLaw" 121) "java/lang/String" "value" "[B") (.int 6)) (.int 99)) (by decide +kernel)
    | 7, _ => exact hs (.eq (.elem (.field (.string "KioskReelLaw" 121) "java/lang/String" "value" "[B") (.int 7)) (.int 112)) (by decide +kernel)
    | 8, _ => exact hs (.eq (.elem (.field (.string "KioskReelLaw" 121) "java/lang/String" "value" "[B") (.int 8)) (.int 112)) (by decide +kernel)
    | 9, _ => exact hs (.eq (.elem (.field (.string "KioskReelLaw" 121) "java/lang/String" "value" "[B") (.int 9)) (.int 115)) (by decide +kernel)
    | 10, _ => exact hs (.eq (.elem (.field (.string "KioskReelLaw" 121) "java/lang/String" "value" "[B") (.int 10)) (.int 100)) (by decide +kernel)
    | 11, _ => exact hs (.eq (.elem (.field (.string "KioskReelLaw" 121) "java/lang/String" "value" "[B") (.int 11)) (.int 102)) (by decide +kernel)
    | j + 12, h => exact absurd h (by omega)
  obtain ⟨adK, adV, hS, he⟩ := vk_Sof (args := args) (s := s) (N := 1) (tm := fun _ => (.string "KioskReelLaw" 121)) (len := [12]) (byt := [ktx]) (A := NA s.heap.size) (fun i hi => by rw [show i = 0 by omega]; decide) (fun i hi => hs (.exactly (.string "KioskReelLaw" 121) "java/lang/String") (by decide +kernel)) (fun i hi => hs (.eq (.field (.string "KioskReelLaw" 121) "java/lang/String" "coder" "B") (.int 0)) (by decide +kernel)) (fun i hi => hs (.arrayOf (.field (.string "KioskReelLaw" 121) "java/lang/String" "value" "[B") .byte) (by decide +kernel)) hle hel (fun i j hi hj hij => absurd (by omega) hij) hA
  have h0 := hS.1 0 (by decide)
  have hS1 : vk_S 1 [12] [ktx] (fun _ => adK 0) (fun _ => adV 0) (NA s.heap.size) s s.heap := ⟨fun i hi => by
    have hi0 : i = 0 := by omega
    subst hi0
    exact h0, fun i j hi hj _ => by omega⟩
  exact ⟨adK 0, adV 0, ⟨hS1, va_Zof (hts (.laysStatic "java/lang/String" "COMPACT_STRINGS" "Z") (by decide +kernel)) (hts (.initialized "java/lang/String") (by decide +kernel)) (va_eqi (hs (.eq (.static "java/lang/String" "COMPACT_STRINGS" "Z") (.int 1)) (by decide +kernel))) hA, va_Zqof (hts (.laysStatic "jdk/internal/util/Preconditions" "SIOOBE_FORMATTER" "Ljava/util/function/BiFunction;") (by decide +kernel)) (hts (.initialized "jdk/internal/util/Preconditions") (by decide +kernel)) (hs (.isRef (.static "jdk/internal/util/Preconditions" "SIOOBE_FORMATTER" "Ljava/util/function/BiFunction;")) (by decide +kernel)) hA⟩, vk_R.of (hts (.stringRef "KioskReelLaw" 121 "sswgvlcppsdf") (by decide +kernel)) (he 0 (by decide))⟩
end START0
