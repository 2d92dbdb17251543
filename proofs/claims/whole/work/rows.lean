section
-- ===== PART A: goes FIRST, ahead of the names: the tables' words, and 'selects' of the private methods out of them =====
/-- a private method of a class that the tables say can be made, by its rows of tables_1 -/
def lw_okq (q : MethodName × Nat) : Prop := (q.1.cls ≠ "java/lang/invoke/MethodHandle" ∧ q.1.cls ≠ "java/lang/invoke/VarHandle") ∧ Cond.instantiable q.1.cls q.2 ∈ tables_1 ∧ Cond.privateMethod q.1 ∈ tables_1 ∧ Cond.instanceMethod q.1 ∈ tables_1
theorem lw_p0 : lw_okq (⟨"KioskReel", "holdersAreSound", "()Z"⟩, 9) := ⟨⟨by decide +kernel, by decide +kernel⟩, List.mem_of_getElem? (i := 24) (by decide +kernel), List.mem_of_getElem? (i := 233) (by decide +kernel), List.mem_of_getElem? (i := 234) (by decide +kernel)⟩
theorem lw_p1 : lw_okq (⟨"KioskReel", "devicesOf", "(I)I"⟩, 9) := ⟨⟨by decide +kernel, by decide +kernel⟩, List.mem_of_getElem? (i := 24) (by decide +kernel), List.mem_of_getElem? (i := 237) (by decide +kernel), List.mem_of_getElem? (i := 238) (by decide +kernel)⟩
theorem lw_p2 : lw_okq (⟨"KioskReel", "queuesAreSound", "()Z"⟩, 9) := ⟨⟨by decide +kernel, by decide +kernel⟩, List.mem_of_getElem? (i := 24) (by decide +kernel), List.mem_of_getElem? (i := 241) (by decide +kernel), List.mem_of_getElem? (i := 242) (by decide +kernel)⟩
theorem lw_p3 : lw_okq (⟨"KioskReel", "visitorsAreSound", "()Z"⟩, 9) := ⟨⟨by decide +kernel, by decide +kernel⟩, List.mem_of_getElem? (i := 24) (by decide +kernel), List.mem_of_getElem? (i := 249) (by decide +kernel), List.mem_of_getElem? (i := 250) (by decide +kernel)⟩
theorem lw_p4 : lw_okq (⟨"java/lang/Throwable", "fillInStackTrace", "(I)Ljava/lang/Throwable;"⟩, 6) := ⟨⟨by decide +kernel, by decide +kernel⟩, List.mem_of_getElem? (i := 302) (by decide +kernel), List.mem_of_getElem? (i := 300) (by decide +kernel), List.mem_of_getElem? (i := 301) (by decide +kernel)⟩
theorem lw_p5 : lw_okq (⟨"KioskReel", "checkList", "(I)V"⟩, 9) := ⟨⟨by decide +kernel, by decide +kernel⟩, List.mem_of_getElem? (i := 24) (by decide +kernel), List.mem_of_getElem? (i := 364) (by decide +kernel), List.mem_of_getElem? (i := 365) (by decide +kernel)⟩
theorem lw_p6 : lw_okq (⟨"KioskReel", "checkKiosk", "(I)V"⟩, 9) := ⟨⟨by decide +kernel, by decide +kernel⟩, List.mem_of_getElem? (i := 24) (by decide +kernel), List.mem_of_getElem? (i := 450) (by decide +kernel), List.mem_of_getElem? (i := 451) (by decide +kernel)⟩
theorem lw_p7 : lw_okq (⟨"KioskReel", "nearestNotOut", "(I)I"⟩, 9) := ⟨⟨by decide +kernel, by decide +kernel⟩, List.mem_of_getElem? (i := 24) (by decide +kernel), List.mem_of_getElem? (i := 472) (by decide +kernel), List.mem_of_getElem? (i := 473) (by decide +kernel)⟩
theorem lw_p8 : lw_okq (⟨"KioskReel", "isNotOut", "(I)Z"⟩, 9) := ⟨⟨by decide +kernel, by decide +kernel⟩, List.mem_of_getElem? (i := 24) (by decide +kernel), List.mem_of_getElem? (i := 476) (by decide +kernel), List.mem_of_getElem? (i := 477) (by decide +kernel)⟩
theorem lw_p9 : lw_okq (⟨"KioskReel", "settle", "(II)V"⟩, 9) := ⟨⟨by decide +kernel, by decide +kernel⟩, List.mem_of_getElem? (i := 24) (by decide +kernel), List.mem_of_getElem? (i := 480) (by decide +kernel), List.mem_of_getElem? (i := 481) (by decide +kernel)⟩
theorem lw_p10 : lw_okq (⟨"KioskReel", "leave", "(I)V"⟩, 9) := ⟨⟨by decide +kernel, by decide +kernel⟩, List.mem_of_getElem? (i := 24) (by decide +kernel), List.mem_of_getElem? (i := 484) (by decide +kernel), List.mem_of_getElem? (i := 485) (by decide +kernel)⟩
theorem lw_p11 : lw_okq (⟨"KioskReel", "checkPlayer", "(I)V"⟩, 9) := ⟨⟨by decide +kernel, by decide +kernel⟩, List.mem_of_getElem? (i := 24) (by decide +kernel), List.mem_of_getElem? (i := 508) (by decide +kernel), List.mem_of_getElem? (i := 509) (by decide +kernel)⟩
theorem lw_p12 : lw_okq (⟨"KioskReel", "passOn", "(I)V"⟩, 9) := ⟨⟨by decide +kernel, by decide +kernel⟩, List.mem_of_getElem? (i := 24) (by decide +kernel), List.mem_of_getElem? (i := 528) (by decide +kernel), List.mem_of_getElem? (i := 529) (by decide +kernel)⟩
theorem lw_p13 : lw_okq (⟨"KioskReel", "gather", "(I)I"⟩, 9) := ⟨⟨by decide +kernel, by decide +kernel⟩, List.mem_of_getElem? (i := 24) (by decide +kernel), List.mem_of_getElem? (i := 546) (by decide +kernel), List.mem_of_getElem? (i := 547) (by decide +kernel)⟩
theorem lw_p14 : lw_okq (⟨"KioskReel", "playOneTick", "()I"⟩, 9) := ⟨⟨by decide +kernel, by decide +kernel⟩, List.mem_of_getElem? (i := 24) (by decide +kernel), List.mem_of_getElem? (i := 605) (by decide +kernel), List.mem_of_getElem? (i := 606) (by decide +kernel)⟩
theorem lw_p15 : lw_okq (⟨"KioskReel", "takeTurn", "(LKioskReel$Player;I)I"⟩, 9) := ⟨⟨by decide +kernel, by decide +kernel⟩, List.mem_of_getElem? (i := 24) (by decide +kernel), List.mem_of_getElem? (i := 609) (by decide +kernel), List.mem_of_getElem? (i := 610) (by decide +kernel)⟩
def lw_privs_1 : List (MethodName × Nat) := [(⟨"KioskReel", "holdersAreSound", "()Z"⟩, 9), (⟨"KioskReel", "devicesOf", "(I)I"⟩, 9), (⟨"KioskReel", "queuesAreSound", "()Z"⟩, 9), (⟨"KioskReel", "visitorsAreSound", "()Z"⟩, 9), (⟨"java/lang/Throwable", "fillInStackTrace", "(I)Ljava/lang/Throwable;"⟩, 6), (⟨"KioskReel", "checkList", "(I)V"⟩, 9), (⟨"KioskReel", "checkKiosk", "(I)V"⟩, 9), (⟨"KioskReel", "nearestNotOut", "(I)I"⟩, 9), (⟨"KioskReel", "isNotOut", "(I)Z"⟩, 9), (⟨"KioskReel", "settle", "(II)V"⟩, 9), (⟨"KioskReel", "leave", "(I)V"⟩, 9), (⟨"KioskReel", "checkPlayer", "(I)V"⟩, 9), (⟨"KioskReel", "passOn", "(I)V"⟩, 9), (⟨"KioskReel", "gather", "(I)I"⟩, 9), (⟨"KioskReel", "playOneTick", "()I"⟩, 9), (⟨"KioskReel", "takeTurn", "(LKioskReel$Player;I)I"⟩, 9)]
theorem lw_r1 : ∀ q ∈ lw_privs_1, lw_okq q := List.forall_mem_cons.mpr ⟨lw_p0, List.forall_mem_cons.mpr ⟨lw_p1, List.forall_mem_cons.mpr ⟨lw_p2, List.forall_mem_cons.mpr ⟨lw_p3, List.forall_mem_cons.mpr ⟨lw_p4, List.forall_mem_cons.mpr ⟨lw_p5, List.forall_mem_cons.mpr ⟨lw_p6, List.forall_mem_cons.mpr ⟨lw_p7, List.forall_mem_cons.mpr ⟨lw_p8, List.forall_mem_cons.mpr ⟨lw_p9, List.forall_mem_cons.mpr ⟨lw_p10, List.forall_mem_cons.mpr ⟨lw_p11, List.forall_mem_cons.mpr ⟨lw_p12, List.forall_mem_cons.mpr ⟨lw_p13, List.forall_mem_cons.mpr ⟨lw_p14, List.forall_mem_cons.mpr ⟨lw_p15, fun _ h => absurd h List.not_mem_nil⟩⟩⟩⟩⟩⟩⟩⟩⟩⟩⟩⟩⟩⟩⟩⟩
theorem lw_p16 : lw_okq (⟨"KioskReel", "doLine", "(LKioskReel$Player;I)LKioskReel$Outcome;"⟩, 9) := ⟨⟨by decide +kernel, by decide +kernel⟩, List.mem_of_getElem? (i := 24) (by decide +kernel), List.mem_of_getElem? (i := 615) (by decide +kernel), List.mem_of_getElem? (i := 616) (by decide +kernel)⟩
theorem lw_p17 : lw_okq (⟨"KioskReel", "obey", "(LKioskReel$Player;ICI)LKioskReel$Outcome;"⟩, 9) := ⟨⟨by decide +kernel, by decide +kernel⟩, List.mem_of_getElem? (i := 24) (by decide +kernel), List.mem_of_getElem? (i := 634) (by decide +kernel), List.mem_of_getElem? (i := 635) (by decide +kernel)⟩
theorem lw_p18 : lw_okq (⟨"KioskReel", "show", "(II)LKioskReel$Outcome;"⟩, 9) := ⟨⟨by decide +kernel, by decide +kernel⟩, List.mem_of_getElem? (i := 24) (by decide +kernel), List.mem_of_getElem? (i := 638) (by decide +kernel), List.mem_of_getElem? (i := 639) (by decide +kernel)⟩
theorem lw_p19 : lw_okq (⟨"KioskReel", "hasVisitor", "(I)Z"⟩, 9) := ⟨⟨by decide +kernel, by decide +kernel⟩, List.mem_of_getElem? (i := 24) (by decide +kernel), List.mem_of_getElem? (i := 650) (by decide +kernel), List.mem_of_getElem? (i := 651) (by decide +kernel)⟩
theorem lw_p20 : lw_okq (⟨"KioskReel", "lease", "(LKioskReel$Player;II)LKioskReel$Outcome;"⟩, 9) := ⟨⟨by decide +kernel, by decide +kernel⟩, List.mem_of_getElem? (i := 24) (by decide +kernel), List.mem_of_getElem? (i := 658) (by decide +kernel), List.mem_of_getElem? (i := 659) (by decide +kernel)⟩
theorem lw_p21 : lw_okq (⟨"KioskReel", "branch", "(LKioskReel$Player;CI)V"⟩, 9) := ⟨⟨by decide +kernel, by decide +kernel⟩, List.mem_of_getElem? (i := 24) (by decide +kernel), List.mem_of_getElem? (i := 663) (by decide +kernel), List.mem_of_getElem? (i := 664) (by decide +kernel)⟩
theorem lw_p22 : lw_okq (⟨"KioskReel", "watchFrozenKiosks", "()V"⟩, 9) := ⟨⟨by decide +kernel, by decide +kernel⟩, List.mem_of_getElem? (i := 24) (by decide +kernel), List.mem_of_getElem? (i := 667) (by decide +kernel), List.mem_of_getElem? (i := 668) (by decide +kernel)⟩
theorem lw_p23 : lw_okq (⟨"KioskReel", "makeOut", "(I)V"⟩, 9) := ⟨⟨by decide +kernel, by decide +kernel⟩, List.mem_of_getElem? (i := 24) (by decide +kernel), List.mem_of_getElem? (i := 671) (by decide +kernel), List.mem_of_getElem? (i := 672) (by decide +kernel)⟩
theorem lw_p24 : lw_okq (⟨"KioskReel", "checkVisitor", "(I)V"⟩, 9) := ⟨⟨by decide +kernel, by decide +kernel⟩, List.mem_of_getElem? (i := 24) (by decide +kernel), List.mem_of_getElem? (i := 717) (by decide +kernel), List.mem_of_getElem? (i := 718) (by decide +kernel)⟩
theorem lw_p25 : lw_okq (⟨"KioskReelModel", "isThrown", "(ZI)Z"⟩, 32) := ⟨⟨by decide +kernel, by decide +kernel⟩, List.mem_of_getElem? (i := 764) (by decide +kernel), List.mem_of_getElem? (i := 875) (by decide +kernel), List.mem_of_getElem? (i := 876) (by decide +kernel)⟩
theorem lw_p26 : lw_okq (⟨"KioskReelModel", "isList", "(I)Z"⟩, 32) := ⟨⟨by decide +kernel, by decide +kernel⟩, List.mem_of_getElem? (i := 764) (by decide +kernel), List.mem_of_getElem? (i := 883) (by decide +kernel), List.mem_of_getElem? (i := 884) (by decide +kernel)⟩
theorem lw_p27 : lw_okq (⟨"KioskReelModel", "isKiosk", "(I)Z"⟩, 32) := ⟨⟨by decide +kernel, by decide +kernel⟩, List.mem_of_getElem? (i := 764) (by decide +kernel), List.mem_of_getElem? (i := 912) (by decide +kernel), List.mem_of_getElem? (i := 913) (by decide +kernel)⟩
theorem lw_p28 : lw_okq (⟨"KioskReelModel", "copies", "(II)V"⟩, 32) := ⟨⟨by decide +kernel, by decide +kernel⟩, List.mem_of_getElem? (i := 764) (by decide +kernel), List.mem_of_getElem? (i := 916) (by decide +kernel), List.mem_of_getElem? (i := 917) (by decide +kernel)⟩
theorem lw_p29 : lw_okq (⟨"KioskReelModel", "nearest", "(I)I"⟩, 32) := ⟨⟨by decide +kernel, by decide +kernel⟩, List.mem_of_getElem? (i := 764) (by decide +kernel), List.mem_of_getElem? (i := 920) (by decide +kernel), List.mem_of_getElem? (i := 921) (by decide +kernel)⟩
theorem lw_p30 : lw_okq (⟨"KioskReelModel", "comesTo", "(II)V"⟩, 32) := ⟨⟨by decide +kernel, by decide +kernel⟩, List.mem_of_getElem? (i := 764) (by decide +kernel), List.mem_of_getElem? (i := 927) (by decide +kernel), List.mem_of_getElem? (i := 928) (by decide +kernel)⟩
theorem lw_p31 : lw_okq (⟨"KioskReelModel", "isNone", "(I)Z"⟩, 32) := ⟨⟨by decide +kernel, by decide +kernel⟩, List.mem_of_getElem? (i := 764) (by decide +kernel), List.mem_of_getElem? (i := 935) (by decide +kernel), List.mem_of_getElem? (i := 936) (by decide +kernel)⟩
def lw_privs_2 : List (MethodName × Nat) := [(⟨"KioskReel", "doLine", "(LKioskReel$Player;I)LKioskReel$Outcome;"⟩, 9), (⟨"KioskReel", "obey", "(LKioskReel$Player;ICI)LKioskReel$Outcome;"⟩, 9), (⟨"KioskReel", "show", "(II)LKioskReel$Outcome;"⟩, 9), (⟨"KioskReel", "hasVisitor", "(I)Z"⟩, 9), (⟨"KioskReel", "lease", "(LKioskReel$Player;II)LKioskReel$Outcome;"⟩, 9), (⟨"KioskReel", "branch", "(LKioskReel$Player;CI)V"⟩, 9), (⟨"KioskReel", "watchFrozenKiosks", "()V"⟩, 9), (⟨"KioskReel", "makeOut", "(I)V"⟩, 9), (⟨"KioskReel", "checkVisitor", "(I)V"⟩, 9), (⟨"KioskReelModel", "isThrown", "(ZI)Z"⟩, 32), (⟨"KioskReelModel", "isList", "(I)Z"⟩, 32), (⟨"KioskReelModel", "isKiosk", "(I)Z"⟩, 32), (⟨"KioskReelModel", "copies", "(II)V"⟩, 32), (⟨"KioskReelModel", "nearest", "(I)I"⟩, 32), (⟨"KioskReelModel", "comesTo", "(II)V"⟩, 32), (⟨"KioskReelModel", "isNone", "(I)Z"⟩, 32)]
theorem lw_r2 : ∀ q ∈ lw_privs_2, lw_okq q := List.forall_mem_cons.mpr ⟨lw_p16, List.forall_mem_cons.mpr ⟨lw_p17, List.forall_mem_cons.mpr ⟨lw_p18, List.forall_mem_cons.mpr ⟨lw_p19, List.forall_mem_cons.mpr ⟨lw_p20, List.forall_mem_cons.mpr ⟨lw_p21, List.forall_mem_cons.mpr ⟨lw_p22, List.forall_mem_cons.mpr ⟨lw_p23, List.forall_mem_cons.mpr ⟨lw_p24, List.forall_mem_cons.mpr ⟨lw_p25, List.forall_mem_cons.mpr ⟨lw_p26, List.forall_mem_cons.mpr ⟨lw_p27, List.forall_mem_cons.mpr ⟨lw_p28, List.forall_mem_cons.mpr ⟨lw_p29, List.forall_mem_cons.mpr ⟨lw_p30, List.forall_mem_cons.mpr ⟨lw_p31, fun _ h => absurd h List.not_mem_nil⟩⟩⟩⟩⟩⟩⟩⟩⟩⟩⟩⟩⟩⟩⟩⟩
theorem lw_p32 : lw_okq (⟨"KioskReelModel", "held", "(I)I"⟩, 32) := ⟨⟨by decide +kernel, by decide +kernel⟩, List.mem_of_getElem? (i := 764) (by decide +kernel), List.mem_of_getElem? (i := 939) (by decide +kernel), List.mem_of_getElem? (i := 940) (by decide +kernel)⟩
theorem lw_p33 : lw_okq (⟨"KioskReelModel", "outOf", "(II)I"⟩, 32) := ⟨⟨by decide +kernel, by decide +kernel⟩, List.mem_of_getElem? (i := 764) (by decide +kernel), List.mem_of_getElem? (i := 943) (by decide +kernel), List.mem_of_getElem? (i := 944) (by decide +kernel)⟩
theorem lw_p34 : lw_okq (⟨"KioskReelModel", "frees", "(I)V"⟩, 32) := ⟨⟨by decide +kernel, by decide +kernel⟩, List.mem_of_getElem? (i := 764) (by decide +kernel), List.mem_of_getElem? (i := 947) (by decide +kernel), List.mem_of_getElem? (i := 948) (by decide +kernel)⟩
theorem lw_p35 : lw_okq (⟨"KioskReelModel", "leaves", "(I)V"⟩, 32) := ⟨⟨by decide +kernel, by decide +kernel⟩, List.mem_of_getElem? (i := 764) (by decide +kernel), List.mem_of_getElem? (i := 951) (by decide +kernel), List.mem_of_getElem? (i := 952) (by decide +kernel)⟩
theorem lw_p36 : lw_okq (⟨"KioskReelModel", "top", "(I)I"⟩, 32) := ⟨⟨by decide +kernel, by decide +kernel⟩, List.mem_of_getElem? (i := 764) (by decide +kernel), List.mem_of_getElem? (i := 979) (by decide +kernel), List.mem_of_getElem? (i := 980) (by decide +kernel)⟩
theorem lw_p37 : lw_okq (⟨"KioskReelModel", "turn", "(I)V"⟩, 32) := ⟨⟨by decide +kernel, by decide +kernel⟩, List.mem_of_getElem? (i := 764) (by decide +kernel), List.mem_of_getElem? (i := 995) (by decide +kernel), List.mem_of_getElem? (i := 996) (by decide +kernel)⟩
theorem lw_p38 : lw_okq (⟨"KioskReelModel", "does", "(II)Z"⟩, 32) := ⟨⟨by decide +kernel, by decide +kernel⟩, List.mem_of_getElem? (i := 764) (by decide +kernel), List.mem_of_getElem? (i := 999) (by decide +kernel), List.mem_of_getElem? (i := 1000) (by decide +kernel)⟩
theorem lw_p39 : lw_okq (⟨"KioskReelModel", "shows", "(II)Z"⟩, 32) := ⟨⟨by decide +kernel, by decide +kernel⟩, List.mem_of_getElem? (i := 764) (by decide +kernel), List.mem_of_getElem? (i := 1003) (by decide +kernel), List.mem_of_getElem? (i := 1004) (by decide +kernel)⟩
theorem lw_p40 : lw_okq (⟨"KioskReelModel", "sees", "(III)Z"⟩, 32) := ⟨⟨by decide +kernel, by decide +kernel⟩, List.mem_of_getElem? (i := 764) (by decide +kernel), List.mem_of_getElem? (i := 1007) (by decide +kernel), List.mem_of_getElem? (i := 1008) (by decide +kernel)⟩
theorem lw_p41 : lw_okq (⟨"KioskReelModel", "present", "(I)I"⟩, 32) := ⟨⟨by decide +kernel, by decide +kernel⟩, List.mem_of_getElem? (i := 764) (by decide +kernel), List.mem_of_getElem? (i := 1011) (by decide +kernel), List.mem_of_getElem? (i := 1012) (by decide +kernel)⟩
theorem lw_p42 : lw_okq (⟨"KioskReelModel", "takes", "(II)Z"⟩, 32) := ⟨⟨by decide +kernel, by decide +kernel⟩, List.mem_of_getElem? (i := 764) (by decide +kernel), List.mem_of_getElem? (i := 1015) (by decide +kernel), List.mem_of_getElem? (i := 1016) (by decide +kernel)⟩
theorem lw_p43 : lw_okq (⟨"KioskReelModel", "watches", "()V"⟩, 32) := ⟨⟨by decide +kernel, by decide +kernel⟩, List.mem_of_getElem? (i := 764) (by decide +kernel), List.mem_of_getElem? (i := 1019) (by decide +kernel), List.mem_of_getElem? (i := 1020) (by decide +kernel)⟩
theorem lw_p44 : lw_okq (⟨"KioskReelModel", "isNoVisitor", "(I)Z"⟩, 32) := ⟨⟨by decide +kernel, by decide +kernel⟩, List.mem_of_getElem? (i := 764) (by decide +kernel), List.mem_of_getElem? (i := 1046) (by decide +kernel), List.mem_of_getElem? (i := 1047) (by decide +kernel)⟩
def lw_privs_3 : List (MethodName × Nat) := [(⟨"KioskReelModel", "held", "(I)I"⟩, 32), (⟨"KioskReelModel", "outOf", "(II)I"⟩, 32), (⟨"KioskReelModel", "frees", "(I)V"⟩, 32), (⟨"KioskReelModel", "leaves", "(I)V"⟩, 32), (⟨"KioskReelModel", "top", "(I)I"⟩, 32), (⟨"KioskReelModel", "turn", "(I)V"⟩, 32), (⟨"KioskReelModel", "does", "(II)Z"⟩, 32), (⟨"KioskReelModel", "shows", "(II)Z"⟩, 32), (⟨"KioskReelModel", "sees", "(III)Z"⟩, 32), (⟨"KioskReelModel", "present", "(I)I"⟩, 32), (⟨"KioskReelModel", "takes", "(II)Z"⟩, 32), (⟨"KioskReelModel", "watches", "()V"⟩, 32), (⟨"KioskReelModel", "isNoVisitor", "(I)Z"⟩, 32)]
theorem lw_r3 : ∀ q ∈ lw_privs_3, lw_okq q := List.forall_mem_cons.mpr ⟨lw_p32, List.forall_mem_cons.mpr ⟨lw_p33, List.forall_mem_cons.mpr ⟨lw_p34, List.forall_mem_cons.mpr ⟨lw_p35, List.forall_mem_cons.mpr ⟨lw_p36, List.forall_mem_cons.mpr ⟨lw_p37, List.forall_mem_cons.mpr ⟨lw_p38, List.forall_mem_cons.mpr ⟨lw_p39, List.forall_mem_cons.mpr ⟨lw_p40, List.forall_mem_cons.mpr ⟨lw_p41, List.forall_mem_cons.mpr ⟨lw_p42, List.forall_mem_cons.mpr ⟨lw_p43, List.forall_mem_cons.mpr ⟨lw_p44, fun _ h => absurd h List.not_mem_nil⟩⟩⟩⟩⟩⟩⟩⟩⟩⟩⟩⟩⟩
def lw_privs : List (MethodName × Nat) := lw_privs_1 ++ (lw_privs_2 ++ (lw_privs_3))
def lw_tbl : List Cond := k2_sels lw_privs ++ tables_1
theorem lw_privs_ok : ∀ q ∈ lw_privs, lw_okq q := by
  show ∀ q ∈ lw_privs_1 ++ (lw_privs_2 ++ (lw_privs_3)), lw_okq q
  exact List.forall_mem_append.mpr ⟨lw_r1, List.forall_mem_append.mpr ⟨lw_r2, lw_r3⟩⟩
/-- the streams that the claim lets the run draw from -/
abbrev lw_cs : List Choice := [Jvm.Choice.named "NaN.bits"]
theorem lw_bits : nanBits ∈ lw_cs := by first | decide | exact List.mem_cons_self | simp [lw_cs, nanBits]
-- ===== end of PART A; then your names; then what follows =====
/-! ===== BEGIN words of one list among another's, by their places ===== -/
theorem goodIn_r {big : List Cond} (ws : List Cond) (ps : List Nat) (hp : ws = ps.filterMap (fun i => big[i]?)) (h : ws.all goodWord = true) : GoodIn big ws := by
  intro w hw
  have h1 := List.all_eq_true.mp h w hw
  rw [hp] at hw
  obtain ⟨i, -, hi⟩ := List.mem_filterMap.mp hw
  have hm : w ∈ big := by first | exact List.mem_of_getElem? hi | exact List.getElem?_mem hi
  exact ⟨hm, good_of_word h1⟩
theorem goodIn_app {big a b : List Cond} (ha : GoodIn big a) (hb : GoodIn big b) : GoodIn big (a ++ b) := fun w h => (List.mem_append.mp h).elim (ha w) (hb w)
theorem goodIn_ca {big a b : List Cond} {c : Cond} (ha : GoodIn big (c :: a)) (hb : GoodIn big b) : GoodIn big (c :: (a ++ b)) := fun w h => (List.mem_cons.mp h).elim (fun e => ha w (List.mem_cons.mpr (Or.inl e))) (fun h => (List.mem_append.mp h).elim (fun h => ha w (List.mem_cons.mpr (Or.inr h))) (hb w))
theorem goodIn_sub {big ws : List Cond} (hm : ∀ w ∈ ws, w ∈ big) (h : ws.all goodWord = true) : GoodIn big ws := fun w hw => ⟨hm w hw, good_of_word (List.all_eq_true.mp h w hw)⟩
/-! ===== END ===== -/

/-! ===== BEGIN exceptions that leave a method, and their catching by the caller (launches without stack traces) ===== -/
section VXA
/-! The laws vx_back, vx_callV, vx_callS, vx_callSW, vx_throw0, vx_throwS follow proofs of the library, with one case more: JvmDerived/Free/Laws.lean (Back.of_free), Shelf42/LK1.lean (callV, callS), Shelf/KitTraced.lean (throwNew0V, throwNewS). -/
/-- where a method has thrown q: the class by its name, the cell, what was written, the world -/
def vx_T (XC : String → State → State → Prop) (st : State) (q : Addr) (t : State) (mc ms : Nat) (free : Addr → Prop) : Prop :=
  ∃ (E : String) (ce : Cell) (L : List Loc), XC E st t ∧ t.heap[q]? = some ce ∧ ce.vm = .none ∧ st.vm.findClass E = some ce.cls ∧ st.WarmedH t.vm ∧ st.sameButNew ({ t with vm := st.vm } : State) L mc ms ∧ ∀ z ∈ L, free z.base
def vx_Q (Qc : Array Value → State → Outcome → State → Prop) (XC : String → State → State → Prop) (mc ms : Nat) (free : Addr → Prop) : Array Value → State → Outcome → State → Prop := fun a st o t =>
  (Qc a st o t ∧ ∃ L, FrameEnd st o t L mc ms ∧ ∀ q ∈ L, free q.base) ∨ ∃ q, o = .threw q ∧ vx_T XC st q t mc ms free
/-- a callee that returns or throws -/
def vx_Met (l : Launch) (y : MethodName) (ws : List Cond) (rm : Room) (Pc : Array Value → State → Prop) (Qc : Array Value → State → Outcome → State → Prop) (XC : String → State → State → Prop) (mc ms : Nat) (free : Addr → Prop) : Prop :=
  MetFree l y (headSpec ws rm) Pc (fun _ _ _ _ _ => True) (vx_Q Qc XC mc ms free)
def vx_Post (XC : String → State → State → Prop) (mc ms : Nat) (free : Addr → Prop) : Pt → Array Value → Addr → Pt → Prop := fun A a q B =>
  ∃ (g : JFrame) (mk : MethodId) (t : State) (L : List Loc) (E : String) (ce : Cell), B.U.heap = t.heap ∧ B.U.vm = t.vm ∧ XC E (A.U.calling g mk a) t ∧ t.heap[q]? = some ce ∧ ce.vm = .none ∧ A.U.vm.findClass E = some ce.cls ∧ B.locs = A.locs ++ L ∧ (∀ z ∈ L, free z.base) ∧ B.cells = A.cells + mc ∧ B.slots = A.slots + ms
def vx_Back (l : Launch) (R : Room) (p : Program) (e : Env) (below : List Frame) (s : State) (sargs : Array Value) (y : MethodName) (len W9 : Nat)
    (Pre : Pt → Array Value → Prop) (Post : Pt → Array Value → Option Value → Pt → Prop) (PostX : Pt → Array Value → Addr → Pt → Prop) : Prop :=
  ∀ (m : MethodId) (meth : Method) (c : Code) (A : Pt) (g : JFrame) (ig : Instr) (mk : MethodId) (a : Array Value),
    Stand p l e R s m sargs below meth c A.U A.locs A.cells A.slots → g.method = m → g.locals.size = c.maxLocals → decode c.code g.pc = .ok (ig, len) →
    2 * g.monitorRoom + (g.stack.map fun v => v.category).sum ≤ W9 → A.U.methodNamed? y = some mk → Pre A a →
    (∃ (v : Option Value) (B : Pt), Stand p l e R s m sargs below meth c B.U B.locs B.cells B.slots ∧ Post A a v B ∧
      Steps p.tables e below (doInvoke e (A.U.setTop g) [] mk a).1 (B.U.setTop { g with pc := g.pc + len, stack := v.toList ++ g.stack })) ∨
    (∃ (q : Addr) (B : Pt), Stand p l e R s m sargs below meth c B.U B.locs B.cells B.slots ∧ PostX A a q B ∧
      Steps p.tables e below (doInvoke e (A.U.setTop g) [] mk a).1 ((B.U.setTop g).pushFrame (.throwing q)))
section Payer
variable {l : Launch} {R : Room} {p : Program} {e : Env} {below : List Frame} {s : State} {sargs : Array Value} {y : MethodName} {len W9 : Nat}
theorem vx_back {ws : List Cond} {rm : Room} {Pc : Array Value → State → Prop} {Qc : Array Value → State → Outcome → State → Prop} {XC : String → State → State → Prop} {mc ms : Nat} {free : Addr → Prop} {bytes : ByteArray} {maxL : Nat} {ret : Option FieldType}
    (hM : vx_Met l y ws rm Pc Qc XC mc ms free) (hblind : FrameBlind Pc) (hrc : rm.cells = mc) (hrs : rm.slots = ms)
    (hframes : rm.frames + 1 ≤ R.frames) (hlocals : W9 + (maxL + 11) + rm.locals ≤ R.locals)
    (hws : ∀ w ∈ ws, ∀ a' U, s.WarmedH U.vm → w.before a' U = true) (hcode : Cond.code y bytes maxL ret ∈ ws) (hinit : ∀ a' U, s.WarmedH U.vm → (Cond.initialized y.cls).before a' U = true) :
    vx_Back l R p e below s sargs y len W9 (PreOf R mc ms Pc) (PostOf Qc mc ms free) (vx_Post XC mc ms free) := by
  intro m meth c A g ig mk a X hg hsize hdg hW hn hp
  have h1 : (headSpec ws rm).pre.before a A.U = true := atoms_intro fun w hw => hws w hw _ _ X.warmed
  have h2 : (Cond.code y bytes maxL ret).before a A.U = true := hws _ hcode _ _ X.warmed
  have h3 : (Cond.initialized y.cls).before a A.U = true := hinit _ _ X.warmed
  have h4 : A.cells + (headSpec ws rm).room.cells ≤ R.cells := by rw [show (headSpec ws rm).room.cells = mc from hrc]; exact hp.1
  have h5 : A.slots + (headSpec ws rm).room.slots ≤ R.slots := by rw [show (headSpec ws rm).room.slots = ms from hrs]; exact hp.2.1
  have hPc : Pc a (A.U.calling g mk a) := hblind _ _ _ _ hp.2.2
  obtain ⟨U, Ls, c0, s0⟩ := A
  dsimp only [Pt.U, Pt.locs, Pt.cells, Pt.slots] at h1 h2 h3 h4 h5 X hn hPc ⊢
  obtain ⟨methY, cY, hmY, hcY, -, hlY, -, -, -, -⟩ := Cond.code_spec hn h2
  obtain ⟨kY, hkY, -⟩ := className_of_methodNamed hn
  have hinitY : kY.init = .initialized := Cond.initialized_spec (findClass_of_methodNamed hn) hkY h3
  have h : At U g.method c below := by rw [hg]; exact X.here
  have hlocals9 : W9 + (maxL + 11) + (headSpec ws rm).room.locals ≤ R.locals := hlocals
  have happ : (headSpec ws rm).appliesLoose y e.platform (U.calling g mk a) = true :=
    Spec.appliesLoose_calling (g := g) h hdg hn hkY hinitY
      (X.room_calling (g := g) (R' := (headSpec ws rm).room) hsize hmY hcY hframes (by rw [hlY]; omega) h4 h5) h1
  obtain ⟨mid, hmid⟩ := h.above
  have hfr : (U.setTop g).frames = (.java g :: mid) ++ below := by rw [State.frames_setTop' g h.top, hmid]; rfl
  obtain ⟨o, s₂, hsteps, -, hend, hq⟩ := Steps.callFree hM p X.admits X.cas X.clock (acts := []) hfr happ hPc trivial
  have hq' : vx_Q Qc XC mc ms free a (U.calling g mk a) o s₂ := hq
  rw [State.frames_setTop' g h.top] at hend
  obtain ⟨g₀, hg0⟩ := Option.isSome_iff_exists.mp h.top
  obtain ⟨r, hr⟩ := State.topJava?_eq_some.mp hg0
  have hr' : (({ U with heap := s₂.heap, slotsUsed := s₂.slotsUsed } : State).setVm s₂.vm).frames = .java g₀ :: r := hr
  rcases hq' with ⟨hqc, L, hfe, hL⟩ | ⟨q, rfl, E, ce, L, hx, hce, hcv, hcl, hW₂, hsm, hL⟩
  · obtain ⟨⟨v, rfl⟩, hW₂, e2, q2, q3, q4, q5, q6⟩ := id hfe
    have e3 : s₂ = ({ (U.calling g mk a).setFrames s₂.frames with heap := s₂.heap, slotsUsed := s₂.slotsUsed } : State).setVm s₂.vm := by
      have : s₂ = ({ s₂ with vm := (U.calling g mk a).vm } : State).setVm s₂.vm := rfl
      rw [e2] at this
      exact this
    obtain ⟨c₂, i₂, len₂, hc₂, hd₂, hf₂⟩ := hend
    have hW' : U.WarmedH s₂.vm := hW₂
    have hcc : c₂ = c := by
      have h1 : s₂.code? g.method = U.code? g.method := by
        rw [State.code?_eq, State.code?_eq, hW'.alike.method?]
      exact Option.some.inj (hc₂.symm.trans (h1.trans h.code))
    subst hcc
    have hlen : len₂ = len := by rw [hdg] at hd₂; cases hd₂; rfl
    subst hlen
    have hs₂ : s₂ = (({ U with heap := s₂.heap, slotsUsed := s₂.slotsUsed } : State).setVm s₂.vm).setTop { g with pc := g.pc + len₂, stack := v.toList ++ g.stack } := by
      refine e3.trans ?_
      rw [hf₂, State.calling_eq h.top, State.setFrames_setFrames, State.setTop_of_frames _ hr', hr]
      rfl
    have hsame : U.sameButNew ({ U with heap := s₂.heap, slotsUsed := s₂.slotsUsed } : State) L mc ms := by
      refine ⟨?_, q2, q3, q4, q5, q6⟩
      obtain ⟨t, ht, -⟩ := State.frames_cons hr
      show ({ U with heap := s₂.heap, slotsUsed := s₂.slotsUsed } : State) = { U.setFrames U.frames with heap := s₂.heap, slotsUsed := s₂.slotsUsed }
      rw [State.setFrames_self ht]
    subst hg
    refine Or.inl ⟨v, ⟨(({ U with heap := s₂.heap, slotsUsed := s₂.slotsUsed } : State).setVm s₂.vm), Ls ++ L, c0 + mc, s0 + ms⟩,
      ⟨X.admits, X.cas, X.clock, X.frames, X.room, X.hears, X.method, X.code, (X.here.setHeapUsed s₂.heap s₂.slotsUsed).setVm hW'.alike, X.tail, State.WarmedH.trans X.warmed hW', X.limits, X.bytes, X.same.trans (hsame.setVm s.vm)⟩,
      ⟨g, mk, s₂, L, rfl, rfl, hqc, rfl, hL, rfl, rfl⟩, ?_⟩
    show Steps p.tables e below _ ((({ U with heap := s₂.heap, slotsUsed := s₂.slotsUsed } : State).setVm s₂.vm).setTop { g with pc := g.pc + len₂, stack := v.toList ++ g.stack })
    rw [← hs₂]
    exact hsteps
  · obtain ⟨e2, q2, q3, q4, q5, q6⟩ := id hsm
    have e3 : s₂ = ({ (U.calling g mk a).setFrames s₂.frames with heap := s₂.heap, slotsUsed := s₂.slotsUsed } : State).setVm s₂.vm := by
      have : s₂ = ({ s₂ with vm := (U.calling g mk a).vm } : State).setVm s₂.vm := rfl
      rw [e2] at this
      exact this
    have hf₂ : s₂.frames = .throwing q :: .java g :: U.frames.tail := hend
    have hW' : U.WarmedH s₂.vm := hW₂
    have hs₂ : s₂ = ((({ U with heap := s₂.heap, slotsUsed := s₂.slotsUsed } : State).setVm s₂.vm).setTop g).pushFrame (.throwing q) := by
      refine e3.trans ?_
      rw [hf₂, State.calling_eq h.top, State.setFrames_setFrames, State.pushFrame, State.frames_setTop _ hr', State.setTop_of_frames _ hr', State.setFrames_setFrames, hr]
      rfl
    have hsame : U.sameButNew ({ U with heap := s₂.heap, slotsUsed := s₂.slotsUsed } : State) L mc ms := by
      refine ⟨?_, q2, q3, q4, q5, q6⟩
      obtain ⟨t, ht, -⟩ := State.frames_cons hr
      show ({ U with heap := s₂.heap, slotsUsed := s₂.slotsUsed } : State) = { U.setFrames U.frames with heap := s₂.heap, slotsUsed := s₂.slotsUsed }
      rw [State.setFrames_self ht]
    subst hg
    refine Or.inr ⟨q, ⟨(({ U with heap := s₂.heap, slotsUsed := s₂.slotsUsed } : State).setVm s₂.vm), Ls ++ L, c0 + mc, s0 + ms⟩,
      ⟨X.admits, X.cas, X.clock, X.frames, X.room, X.hears, X.method, X.code, (X.here.setHeapUsed s₂.heap s₂.slotsUsed).setVm hW'.alike, X.tail, State.WarmedH.trans X.warmed hW', X.limits, X.bytes, X.same.trans (hsame.setVm s.vm)⟩,
      ⟨g, mk, s₂, L, E, ce, rfl, rfl, hx, hce, hcv, hcl, rfl, hL, rfl, rfl⟩, ?_⟩
    show Steps p.tables e below _ (((({ U with heap := s₂.heap, slotsUsed := s₂.slotsUsed } : State).setVm s₂.vm).setTop g).pushFrame (.throwing q))
    rw [← hs₂]
    exact hsteps
end Payer
section Calls
variable {p : Program} {l : Launch} {e : Env} {R : Room} {s : State} {m : MethodId} {args : Array Value} {below : List Frame} {meth : Method} {c : Code} {T : State} {locs : List Loc} {cells slots : Nat}
theorem vx_callV (X : Stand p l e R s m args below meth c T locs cells slots) (hexec : p.tables.exec = Jvm.exec) {own C : String} {index : Nat} {y : MethodName} {bytes : ByteArray} {maxL : Nat} {ret : Option FieldType}
    (hown : s.vm.findClass own = some m.cls) (hlink : (Cond.methodLink own index y).before args s = true) (hinst : (Cond.instanceMethod y).before args s = true) (hsel : (Cond.selects C y y).before args s = true)
    (hcode : (Cond.code y bytes maxL ret).before args s = true) (hy : y.cls ≠ "java/lang/invoke/MethodHandle" ∧ y.cls ≠ "java/lang/invoke/VarHandle")
    {W9 : Nat} {Pre : Pt → Array Value → Prop} {Post : Pt → Array Value → Option Value → Pt → Prop} {PostX : Pt → Array Value → Addr → Pt → Prop} (hK : vx_Back l R p e below s args y 3 W9 Pre Post PostX)
    {b : Addr} {cellB : Cell} (hcell : T.heap[b]? = some cellB) (hobj : cellB.vm.isStatics = false) (hcls : s.vm.findClass C = some cellB.cls)
    {g : JFrame} (hg : g.method = m) (hsize : g.locals.size = c.maxLocals) {argsL rest : List Value} (hlen : ∀ sig, parseMethodDescriptor y.desc = some sig → argsL.length = sig.parameters.length)
    (hstack : g.stack = argsL.reverse ++ .ref b :: rest) (hW : 2 * g.monitorRoom + (rest.map fun v => v.category).sum ≤ W9) (hdg : decode c.code g.pc = .ok (.invokevirtual index, 3))
    (hpre : ∀ vm₁, s.WarmedH vm₁ → Pre ⟨T.setVm vm₁, locs, cells, slots⟩ (Value.ref b :: argsL).toArray) :
    (∃ (v : Option Value) (vm₁ : Vm) (B : Pt), s.WarmedH vm₁ ∧ Stand p l e R s m args below meth c B.U B.locs B.cells B.slots ∧ Post ⟨T.setVm vm₁, locs, cells, slots⟩ (Value.ref b :: argsL).toArray v B ∧
      ∀ target, Steps p.tables e below (B.U.setTop { g with pc := g.pc + 3, stack := v.toList ++ rest }) target → Steps p.tables e below (T.setTop g) target) ∨
    (∃ (q : Addr) (vm₁ : Vm) (B : Pt), s.WarmedH vm₁ ∧ Stand p l e R s m args below meth c B.U B.locs B.cells B.slots ∧ PostX ⟨T.setVm vm₁, locs, cells, slots⟩ (Value.ref b :: argsL).toArray q B ∧
      Steps p.tables e below (T.setTop g) ((B.U.setTop { g with stack := rest }).pushFrame (.throwing q))) := by
  obtain ⟨mk, methM, hnamed, hmethM, hstM, habM⟩ := Cond.instanceMethod_spec hinst
  obtain ⟨methM', cM, hmethM', -, -, -, -, -, -, hsigM⟩ := Cond.code_spec hnamed hcode
  cases hmethM.symm.trans hmethM'
  obtain ⟨c2, r2, m2, q1, q2, q3, q4, kP, hkP, hkPi⟩ := Cond.selects_spec hsel
  cases hcls.symm.trans q1
  cases (State.methodFound?_of_named hnamed hy).symm.trans q2
  cases hnamed.symm.trans q3
  have hselP : selectMethod e.platform s.vm cellB.cls mk = .method mk := by rw [Launch.admits_selectMethod X.admits]; exact q4
  obtain ⟨vm₁, X₁, hstep₁⟩ := X.invokevirtual hexec hown hlink hnamed hmethM hstM hkP hkPi hy (a := b) (cell := cellB) hcell
    (fun z h => by rw [h] at hobj; cases hobj) hselP hmethM habM hkP hkPi (g := g) hg (argsL := argsL) (rest := rest) (hlen _ hsigM) hstack hdg
  rcases hK m meth c ⟨T.setVm vm₁, locs, cells, slots⟩ { g with stack := rest } (.invokevirtual index) mk (Value.ref b :: argsL).toArray X₁ hg hsize hdg hW (X₁.named hnamed) (hpre vm₁ X₁.warmed) with ⟨v, B, X', hpost, hsteps⟩ | ⟨q, B, X', hpost, hsteps⟩
  · exact Or.inl ⟨v, vm₁, B, X₁.warmed, X', hpost, fun target h => hstep₁ _ fun acts => by rw [doInvoke_state]; exact hsteps.trans h⟩
  · exact Or.inr ⟨q, vm₁, B, X₁.warmed, X', hpost, hstep₁ _ fun acts => by rw [doInvoke_state]; exact hsteps⟩
theorem vx_callS (X : Stand p l e R s m args below meth c T locs cells slots) (hexec : p.tables.exec = Jvm.exec) {own : String} {index : Nat} {y : MethodName} {bytes : ByteArray} {maxL : Nat} {ret : Option FieldType}
    (hown : s.vm.findClass own = some m.cls) (hlink : (Cond.methodLink own index y).before args s = true) (hstat : (Cond.static y).before args s = true) (hinit : (Cond.initialized y.cls).before args s = true)
    (hcode : (Cond.code y bytes maxL ret).before args s = true) (hy : y.cls ≠ "java/lang/invoke/MethodHandle" ∧ y.cls ≠ "java/lang/invoke/VarHandle")
    {W9 : Nat} {Pre : Pt → Array Value → Prop} {Post : Pt → Array Value → Option Value → Pt → Prop} {PostX : Pt → Array Value → Addr → Pt → Prop} (hK : vx_Back l R p e below s args y 3 W9 Pre Post PostX)
    {g : JFrame} (hg : g.method = m) (hsize : g.locals.size = c.maxLocals) {argsL rest : List Value} (hlen : ∀ sig, parseMethodDescriptor y.desc = some sig → argsL.length = sig.parameters.length)
    (hstack : g.stack = argsL.reverse ++ rest) (hW : 2 * g.monitorRoom + (rest.map fun v => v.category).sum ≤ W9) (hdg : decode c.code g.pc = .ok (.invokestatic index, 3))
    (hpre : ∀ vm₁, s.WarmedH vm₁ → Pre ⟨T.setVm vm₁, locs, cells, slots⟩ argsL.toArray) :
    (∃ (v : Option Value) (vm₁ : Vm) (B : Pt), s.WarmedH vm₁ ∧ Stand p l e R s m args below meth c B.U B.locs B.cells B.slots ∧ Post ⟨T.setVm vm₁, locs, cells, slots⟩ argsL.toArray v B ∧
      ∀ target, Steps p.tables e below (B.U.setTop { g with pc := g.pc + 3, stack := v.toList ++ rest }) target → Steps p.tables e below (T.setTop g) target) ∨
    (∃ (q : Addr) (vm₁ : Vm) (B : Pt), s.WarmedH vm₁ ∧ Stand p l e R s m args below meth c B.U B.locs B.cells B.slots ∧ PostX ⟨T.setVm vm₁, locs, cells, slots⟩ argsL.toArray q B ∧
      Steps p.tables e below (T.setTop g) ((B.U.setTop { g with stack := rest }).pushFrame (.throwing q))) := by
  obtain ⟨mk, hnamed⟩ := Cond.code_named hcode
  obtain ⟨methM, cM, hmethM, -, -, -, -, -, -, hsigM⟩ := Cond.code_spec hnamed hcode
  have hstatic : methM.isStatic = true := Cond.static_spec hnamed hmethM hstat
  obtain ⟨kP, hkP, -⟩ := className_of_methodNamed hnamed
  have hinitP : kP.init = .initialized := Cond.initialized_spec (findClass_of_methodNamed hnamed) hkP hinit
  obtain ⟨vm₁, X₁, hstep₁⟩ := X.invokestatic hexec hown hlink hnamed hmethM hstatic hkP hinitP hy (g := g) hg (argsL := argsL) (rest := rest) (hlen _ hsigM) hstack hdg
  rcases hK m meth c ⟨T.setVm vm₁, locs, cells, slots⟩ { g with stack := rest } (.invokestatic index) mk argsL.toArray X₁ hg hsize hdg hW (X₁.named hnamed) (hpre vm₁ X₁.warmed) with ⟨v, B, X', hpost, hsteps⟩ | ⟨q, B, X', hpost, hsteps⟩
  · exact Or.inl ⟨v, vm₁, B, X₁.warmed, X', hpost, fun target h => hstep₁ _ fun acts => by rw [doInvoke_state]; exact hsteps.trans h⟩
  · exact Or.inr ⟨q, vm₁, B, X₁.warmed, X', hpost, hstep₁ _ fun acts => by rw [doInvoke_state]; exact hsteps⟩
end Calls
theorem vx_cls {s : State} {T : State} {vm₁ : Vm} {E : String} {k : ClassId} (hW : s.WarmedH vm₁) (h : (T.setVm vm₁).vm.findClass E = some k) : s.vm.findClass E = some k := by
  have h1 : vm₁.findClass E = some k := h
  rw [hW.alike.findClass] at h1
  exact h1
/-- the method's frame g, with q thrown over it -/
def vx_W (p : Program) (l : Launch) (e : Env) (R : Room) (s : State) (m : MethodId) (args : Array Value) (below : List Frame) (meth : Method) (c : Code) (H : Heap) (locs : List Loc) (cells slots : Nat) (Q : State → Prop) (g : JFrame) (q : Addr) : Prop :=
  ∀ T : State, T.heap = H → Stand p l e R s m args below meth c T locs cells slots → ∃ t, Steps p.tables e below ((T.setTop g).pushFrame (.throwing q)) t ∧ Q t
def vx_Run (p : Program) (l : Launch) (e : Env) (R : Room) (s : State) (m : MethodId) (args : Array Value) (below : List Frame) (meth : Method) (c : Code) (H : Heap) (locs : List Loc) (cells slots mc ms : Nat) (g : JFrame) (rest : List Value) (Qa : State → Outcome → State → Prop) (XC : String → State → State → Prop) (free : Addr → Prop) : Prop :=
  ∀ T : State, T.heap = H → Stand p l e R s m args below meth c T locs cells slots →
    (∃ (v : Option Value) (st₀ t T' : State) (L : List Loc), st₀.heap = H ∧ Stand p l e R s m args below meth c T' (locs ++ L) (cells + mc) (slots + ms) ∧ (∀ q ∈ L, free q.base) ∧ T'.heap = t.heap ∧ T'.vm = t.vm ∧ Qa st₀ (.returned v) t ∧
      Goes p e below T g T' { g with pc := g.pc + 3, stack := v.toList ++ rest }) ∨
    (∃ (q : Addr) (st₀ t T' : State) (L : List Loc) (E : String) (ce : Cell), st₀.heap = H ∧ Stand p l e R s m args below meth c T' (locs ++ L) (cells + mc) (slots + ms) ∧ (∀ z ∈ L, free z.base) ∧ T'.heap = t.heap ∧ T'.vm = t.vm ∧ XC E st₀ t ∧ t.heap[q]? = some ce ∧ ce.vm = .none ∧ s.vm.findClass E = some ce.cls ∧
      Steps p.tables e below (T.setTop g) ((T'.setTop { g with stack := rest }).pushFrame (.throwing q)))
def vx_X {S : Type} (px : S → Prop) (B : String → S → State → Prop) (A : Nat → Prop) : String → State → State → Prop := fun E st t => ∃ u : S, px u ∧ B E u t ∧ va_F A st t
section Runs
variable {p : Program} {l : Launch} {e : Env} {R : Room} {s : State} {m : MethodId} {args : Array Value} {below : List Frame} {meth : Method} {c : Code} {H : Heap} {locs : List Loc} {cells slots : Nat}
variable {y : MethodName} {bytes cc : ByteArray} {maxL nL mc ms n index : Nat} {ret : Option FieldType} {ws : List Cond} {rm : Room} {Pc : Array Value → State → Prop} {Qc : Array Value → State → Outcome → State → Prop} {XC : String → State → State → Prop} {free : Addr → Prop} {Ts : List Cond} {own C : String} {b : Addr} {As rest : List Value} {g : JFrame}
theorem vx_callBack (cb : CallB R s args own index y bytes maxL ret ws rm mc ms n) (hM : vx_Met l y ws rm Pc Qc XC mc ms free) (hbl : FrameBlind Pc) : vx_Back l R p e below s args y 3 8 (PreOf R mc ms Pc) (PostOf Qc mc ms free) (vx_Post XC mc ms free) := by
  obtain ⟨hrc, hrs, hfr, hlo, hws, hcw, -, hini, -⟩ := cb
  exact vx_back (bytes := bytes) (maxL := maxL) (ret := ret) hM hbl hrc hrs hfr hlo hws hcw (fun a' U hW => word_at hW (Or.inl (by first | rfl | simp [Cond.onTables, Cond.keeps, Cond.steady])) hini)
theorem vx_runV (S : CallFix p m c cc nL s args Ts own) (hM : vx_Met l y ws rm Pc Qc XC mc ms free) (cw : CallW R s args own C index y bytes maxL ret ws rm mc ms n) (hp : PreV s H C b Pc As)
    (hg : g.method = m) (hn : As.length = n) (hsize : g.locals.size = nL) (hstack : g.stack = As.reverse ++ .ref b :: rest) (hW : 2 * g.monitorRoom + (rest.map fun v => v.category).sum ≤ 8) (hdg : decode cc g.pc = .ok (.invokevirtual index, 3)) (hf : cells + mc ≤ R.cells ∧ slots + ms ≤ R.slots) :
    vx_Run p l e R s m args below meth c H locs cells slots mc ms g rest (Qc (Value.ref b :: As).toArray) XC free := by
  have hK : vx_Back l R p e below s args y 3 8 (PreOf R mc ms Pc) (PostOf Qc mc ms free) (vx_Post XC mc ms free) := vx_callBack cw.1 hM hp.1
  obtain ⟨⟨-, -, -, -, -, -, hcode, -, hy, hlen, hl⟩, hin, hse⟩ := cw
  obtain ⟨hx, hb, hml, ho, -⟩ := S
  obtain ⟨-, ⟨cellB, hcB, hoB, hclB⟩, hPc⟩ := hp
  intro T hT X
  rcases vx_callV X hx (C := C) (bytes := bytes) (maxL := maxL) (ret := ret) ho hl hin hse hcode hy hK (by rw [hT]; exact hcB) hoB hclB hg (hsize.trans hml.symm) (argsL := As) (rest := rest) (fun sig h => hn.trans (hlen sig h)) hstack hW (by rw [hb]; exact hdg)
    (fun vm₁ hW₁ => ⟨hf.1, hf.2, hPc (T.setVm vm₁) hT hW₁⟩) with ⟨v, vm₁, ⟨U', l2, c2, s2⟩, hW₁, X', ⟨g', mk, t, L, e1, e2, hq, h1, hL, h2, h3⟩, st⟩ | ⟨q, vm₁, ⟨U', l2, c2, s2⟩, hW₁, X', ⟨g', mk, t, L, E, ce, e1, e2, hq, hce, hcv, hcl, h1, hL, h2, h3⟩, st⟩
  · dsimp only [Pt.U, Pt.locs, Pt.cells, Pt.slots] at X' e1 e2 h1 h2 h3 st
    subst h1; subst h2; subst h3
    exact Or.inl ⟨v, (T.setVm vm₁).calling g' mk (Value.ref b :: As).toArray, t, U', L, hT, X', hL, e1, e2, hq, st⟩
  · dsimp only [Pt.U, Pt.locs, Pt.cells, Pt.slots] at X' e1 e2 h1 h2 h3 st hcl
    subst h1; subst h2; subst h3
    exact Or.inr ⟨q, (T.setVm vm₁).calling g' mk (Value.ref b :: As).toArray, t, U', L, E, ce, hT, X', hL, e1, e2, hq, hce, hcv, vx_cls hW₁ hcl, st⟩
theorem vx_runS (S : CallFix p m c cc nL s args Ts own) (hM : vx_Met l y ws rm Pc Qc XC mc ms free) (cw : CallB R s args own index y bytes maxL ret ws rm mc ms n ∧ (Cond.static y).before args s = true) (hp : PreS s H Pc As)
    (hg : g.method = m) (hn : As.length = n) (hsize : g.locals.size = nL) (hstack : g.stack = As.reverse ++ rest) (hW : 2 * g.monitorRoom + (rest.map fun v => v.category).sum ≤ 8) (hdg : decode cc g.pc = .ok (.invokestatic index, 3)) (hf : cells + mc ≤ R.cells ∧ slots + ms ≤ R.slots) :
    vx_Run p l e R s m args below meth c H locs cells slots mc ms g rest (Qc As.toArray) XC free := by
  have hK : vx_Back l R p e below s args y 3 8 (PreOf R mc ms Pc) (PostOf Qc mc ms free) (vx_Post XC mc ms free) := vx_callBack cw.1 hM hp.1
  obtain ⟨⟨-, -, -, -, -, -, hcode, hini, hy, hlen, hl⟩, hstt⟩ := cw
  obtain ⟨hx, hb, hml, ho, -⟩ := S
  intro T hT X
  rcases vx_callS X hx (bytes := bytes) (maxL := maxL) (ret := ret) ho hl hstt hini hcode hy hK hg (hsize.trans hml.symm) (argsL := As) (rest := rest) (fun sig h => hn.trans (hlen sig h)) hstack hW (by rw [hb]; exact hdg)
    (fun vm₁ hW₁ => ⟨hf.1, hf.2, hp.2 (T.setVm vm₁) hT hW₁⟩) with ⟨v, vm₁, ⟨U', l2, c2, s2⟩, hW₁, X', ⟨g', mk, t, L, e1, e2, hq, h1, hL, h2, h3⟩, st⟩ | ⟨q, vm₁, ⟨U', l2, c2, s2⟩, hW₁, X', ⟨g', mk, t, L, E, ce, e1, e2, hq, hce, hcv, hcl, h1, hL, h2, h3⟩, st⟩
  · dsimp only [Pt.U, Pt.locs, Pt.cells, Pt.slots] at X' e1 e2 h1 h2 h3 st
    subst h1; subst h2; subst h3
    exact Or.inl ⟨v, (T.setVm vm₁).calling g' mk As.toArray, t, U', L, hT, X', hL, e1, e2, hq, st⟩
  · dsimp only [Pt.U, Pt.locs, Pt.cells, Pt.slots] at X' e1 e2 h1 h2 h3 st hcl
    subst h1; subst h2; subst h3
    exact Or.inr ⟨q, (T.setVm vm₁).calling g' mk As.toArray, t, U', L, E, ce, hT, X', hL, e1, e2, hq, hce, hcv, vx_cls hW₁ hcl, st⟩
end Runs
section Rows
variable {p : Program} {l : Launch} {e : Env} {R : Room} {s : State} {m : MethodId} {args : Array Value} {below : List Frame} {meth : Method} {c : Code} {H : Heap} {locs : List Loc} {cells slots : Nat} {Q : State → Prop}
variable {mc ms : Nat} {free : Addr → Prop} {A0 A1 : Nat → Prop} {H0 : Heap} {a : Array Value} {pc : Nat} {ls : Array Slot} {st0 rest : List Value}
theorem vx_keep {st₀ t T' : State} {L : List Loc} (h0 : st₀.heap = H) (e1 : T'.heap = t.heap) (hS : va_S A0 H0 H locs) (hA : ∀ q, q < H.size → A1 q → A0 q) (hf : ∀ q, free q → A0 q) (hL : ∀ q ∈ L, free q.base) (hF : va_F A1 st₀ t) :
    H.size ≤ T'.heap.size ∧ (∀ q : Nat, q < H.size → ¬ A1 q → T'.heap[q]? = H[q]?) ∧ va_S A0 H0 T'.heap (locs ++ L) := by
  obtain ⟨hz, hk⟩ := hF
  rw [h0] at hz hk
  exact ⟨by rw [e1]; exact hz, fun q h1 h2 => by rw [e1]; exact hk q h1 h2,
    ⟨Nat.le_trans hS.1 (by rw [e1]; exact hz), fun q h1 h2 => by rw [e1, hk q (Nat.lt_of_lt_of_le h1 hS.1) (fun z => h2 (hA q (Nat.lt_of_lt_of_le h1 hS.1) z))]; exact hS.2.1 q h1 h2, fun q hq => by
      rcases List.mem_append.mp hq with h | h
      · exact hS.2.2 q h
      · exact hf _ (hL q h)⟩⟩
theorem vx_calli {S SX : Type} {post : Int32 → S → Prop} {px : SX → Prop} {B : S → State → Prop} {BX : String → SX → State → Prop} {AX : Nat → Prop} (hr : vx_Run p l e R s m args below meth c H locs cells slots mc ms (F0 m pc ls st0) rest (va_Qi post B A1 a) (vx_X px BX AX) free) (hS : va_S A0 H0 H locs) (hA : ∀ q, q < H.size → A1 q → A0 q) (hf : ∀ q, free q → A0 q) (hAX : ∀ q, q < H.size → AX q → A0 q)
    (kx : ∀ (E : String) (ce : Cell) (q9 : Addr) (u : SX) (t : State) (H1 : Heap) (locs1 : List Loc), t.heap = H1 → s.vm.Alike t.vm → px u → BX E u t → H.size ≤ H1.size → (∀ q : Nat, q < H.size → ¬ AX q → H1[q]? = H[q]?) → va_S A0 H0 H1 locs1 → H1[q9]? = some ce → ce.vm = .none → s.vm.findClass E = some ce.cls → vx_W p l e R s m args below meth c H1 locs1 (cells + mc) (slots + ms) Q (F0 m pc ls rest) q9)
    (kk : ∀ (r : Int32) (u : S) (t : State) (H1 : Heap) (locs1 : List Loc), t.heap = H1 → s.vm.Alike t.vm → post r u → B u t → H.size ≤ H1.size → (∀ q : Nat, q < H.size → ¬ A1 q → H1[q]? = H[q]?) → va_S A0 H0 H1 locs1 → W p l e R s m args below meth c H1 locs1 (cells + mc) (slots + ms) Q (F0 m (pc + 3) ls (.int r :: rest))) : W p l e R s m args below meth c H locs cells slots Q (F0 m pc ls st0) := by
  intro T hT X
  rcases hr T hT X with ⟨v, st₀, t, T', L, h0, X', hL, e1, e2, ⟨⟨r, u, hv, hp, hb⟩, hF⟩, st⟩ | ⟨q, st₀, t, T', L, E, ce, h0, X', hL, e1, e2, ⟨u, hp, hb, hF⟩, hce, hcv, hcl, st⟩
  · cases hv
    obtain ⟨k1, k2, k3⟩ := vx_keep h0 e1 hS hA hf hL hF
    obtain ⟨t2, a1, b1⟩ := kk r u t T'.heap (locs ++ L) e1.symm (by rw [← e2]; exact X'.warmed.alike) hp hb k1 k2 k3 T' rfl X'
    exact ⟨t2, st t2 a1, b1⟩
  · obtain ⟨k1, k2, k3⟩ := vx_keep h0 e1 hS hAX hf hL hF
    obtain ⟨t2, a1, b1⟩ := kx E ce q u t T'.heap (locs ++ L) e1.symm (by rw [← e2]; exact X'.warmed.alike) hp hb k1 k2 k3 (by rw [e1]; exact hce) hcv hcl T' rfl X'
    exact ⟨t2, st.trans a1, b1⟩
theorem vx_calll {S SX : Type} {post : Int64 → S → Prop} {px : SX → Prop} {B : S → State → Prop} {BX : String → SX → State → Prop} {AX : Nat → Prop} (hr : vx_Run p l e R s m args below meth c H locs cells slots mc ms (F0 m pc ls st0) rest (va_Ql post B A1 a) (vx_X px BX AX) free) (hS : va_S A0 H0 H locs) (hA : ∀ q, q < H.size → A1 q → A0 q) (hf : ∀ q, free q → A0 q) (hAX : ∀ q, q < H.size → AX q → A0 q)
    (kx : ∀ (E : String) (ce : Cell) (q9 : Addr) (u : SX) (t : State) (H1 : Heap) (locs1 : List Loc), t.heap = H1 → s.vm.Alike t.vm → px u → BX E u t → H.size ≤ H1.size → (∀ q : Nat, q < H.size → ¬ AX q → H1[q]? = H[q]?) → va_S A0 H0 H1 locs1 → H1[q9]? = some ce → ce.vm = .none → s.vm.findClass E = some ce.cls → vx_W p l e R s m args below meth c H1 locs1 (cells + mc) (slots + ms) Q (F0 m pc ls rest) q9)
    (kk : ∀ (r : Int64) (u : S) (t : State) (H1 : Heap) (locs1 : List Loc), t.heap = H1 → s.vm.Alike t.vm → post r u → B u t → H.size ≤ H1.size → (∀ q : Nat, q < H.size → ¬ A1 q → H1[q]? = H[q]?) → va_S A0 H0 H1 locs1 → W p l e R s m args below meth c H1 locs1 (cells + mc) (slots + ms) Q (F0 m (pc + 3) ls (.long r :: rest))) : W p l e R s m args below meth c H locs cells slots Q (F0 m pc ls st0) := by
  intro T hT X
  rcases hr T hT X with ⟨v, st₀, t, T', L, h0, X', hL, e1, e2, ⟨⟨r, u, hv, hp, hb⟩, hF⟩, st⟩ | ⟨q, st₀, t, T', L, E, ce, h0, X', hL, e1, e2, ⟨u, hp, hb, hF⟩, hce, hcv, hcl, st⟩
  · cases hv
    obtain ⟨k1, k2, k3⟩ := vx_keep h0 e1 hS hA hf hL hF
    obtain ⟨t2, a1, b1⟩ := kk r u t T'.heap (locs ++ L) e1.symm (by rw [← e2]; exact X'.warmed.alike) hp hb k1 k2 k3 T' rfl X'
    exact ⟨t2, st t2 a1, b1⟩
  · obtain ⟨k1, k2, k3⟩ := vx_keep h0 e1 hS hAX hf hL hF
    obtain ⟨t2, a1, b1⟩ := kx E ce q u t T'.heap (locs ++ L) e1.symm (by rw [← e2]; exact X'.warmed.alike) hp hb k1 k2 k3 (by rw [e1]; exact hce) hcv hcl T' rfl X'
    exact ⟨t2, st.trans a1, b1⟩
theorem vx_callf {S SX : Type} {post : UInt32 → S → Prop} {px : SX → Prop} {B : S → State → Prop} {BX : String → SX → State → Prop} {AX : Nat → Prop} (hr : vx_Run p l e R s m args below meth c H locs cells slots mc ms (F0 m pc ls st0) rest (va_Qf post B A1 a) (vx_X px BX AX) free) (hS : va_S A0 H0 H locs) (hA : ∀ q, q < H.size → A1 q → A0 q) (hf : ∀ q, free q → A0 q) (hAX : ∀ q, q < H.size → AX q → A0 q)
    (kx : ∀ (E : String) (ce : Cell) (q9 : Addr) (u : SX) (t : State) (H1 : Heap) (locs1 : List Loc), t.heap = H1 → s.vm.Alike t.vm → px u → BX E u t → H.size ≤ H1.size → (∀ q : Nat, q < H.size → ¬ AX q → H1[q]? = H[q]?) → va_S A0 H0 H1 locs1 → H1[q9]? = some ce → ce.vm = .none → s.vm.findClass E = some ce.cls → vx_W p l e R s m args below meth c H1 locs1 (cells + mc) (slots + ms) Q (F0 m pc ls rest) q9)
    (kk : ∀ (r : UInt32) (u : S) (t : State) (H1 : Heap) (locs1 : List Loc), t.heap = H1 → s.vm.Alike t.vm → post r u → B u t → H.size ≤ H1.size → (∀ q : Nat, q < H.size → ¬ A1 q → H1[q]? = H[q]?) → va_S A0 H0 H1 locs1 → W p l e R s m args below meth c H1 locs1 (cells + mc) (slots + ms) Q (F0 m (pc + 3) ls (.float r :: rest))) : W p l e R s m args below meth c H locs cells slots Q (F0 m pc ls st0) := by
  intro T hT X
  rcases hr T hT X with ⟨v, st₀, t, T', L, h0, X', hL, e1, e2, ⟨⟨r, u, hv, hp, hb⟩, hF⟩, st⟩ | ⟨q, st₀, t, T', L, E, ce, h0, X', hL, e1, e2, ⟨u, hp, hb, hF⟩, hce, hcv, hcl, st⟩
  · cases hv
    obtain ⟨k1, k2, k3⟩ := vx_keep h0 e1 hS hA hf hL hF
    obtain ⟨t2, a1, b1⟩ := kk r u t T'.heap (locs ++ L) e1.symm (by rw [← e2]; exact X'.warmed.alike) hp hb k1 k2 k3 T' rfl X'
    exact ⟨t2, st t2 a1, b1⟩
  · obtain ⟨k1, k2, k3⟩ := vx_keep h0 e1 hS hAX hf hL hF
    obtain ⟨t2, a1, b1⟩ := kx E ce q u t T'.heap (locs ++ L) e1.symm (by rw [← e2]; exact X'.warmed.alike) hp hb k1 k2 k3 (by rw [e1]; exact hce) hcv hcl T' rfl X'
    exact ⟨t2, st.trans a1, b1⟩
theorem vx_calld {S SX : Type} {post : UInt64 → S → Prop} {px : SX → Prop} {B : S → State → Prop} {BX : String → SX → State → Prop} {AX : Nat → Prop} (hr : vx_Run p l e R s m args below meth c H locs cells slots mc ms (F0 m pc ls st0) rest (va_Qd post B A1 a) (vx_X px BX AX) free) (hS : va_S A0 H0 H locs) (hA : ∀ q, q < H.size → A1 q → A0 q) (hf : ∀ q, free q → A0 q) (hAX : ∀ q, q < H.size → AX q → A0 q)
    (kx : ∀ (E : String) (ce : Cell) (q9 : Addr) (u : SX) (t : State) (H1 : Heap) (locs1 : List Loc), t.heap = H1 → s.vm.Alike t.vm → px u → BX E u t → H.size ≤ H1.size → (∀ q : Nat, q < H.size → ¬ AX q → H1[q]? = H[q]?) → va_S A0 H0 H1 locs1 → H1[q9]? = some ce → ce.vm = .none → s.vm.findClass E = some ce.cls → vx_W p l e R s m args below meth c H1 locs1 (cells + mc) (slots + ms) Q (F0 m pc ls rest) q9)
    (kk : ∀ (r : UInt64) (u : S) (t : State) (H1 : Heap) (locs1 : List Loc), t.heap = H1 → s.vm.Alike t.vm → post r u → B u t → H.size ≤ H1.size → (∀ q : Nat, q < H.size → ¬ A1 q → H1[q]? = H[q]?) → va_S A0 H0 H1 locs1 → W p l e R s m args below meth c H1 locs1 (cells + mc) (slots + ms) Q (F0 m (pc + 3) ls (.double r :: rest))) : W p l e R s m args below meth c H locs cells slots Q (F0 m pc ls st0) := by
  intro T hT X
  rcases hr T hT X with ⟨v, st₀, t, T', L, h0, X', hL, e1, e2, ⟨⟨r, u, hv, hp, hb⟩, hF⟩, st⟩ | ⟨q, st₀, t, T', L, E, ce, h0, X', hL, e1, e2, ⟨u, hp, hb, hF⟩, hce, hcv, hcl, st⟩
  · cases hv
    obtain ⟨k1, k2, k3⟩ := vx_keep h0 e1 hS hA hf hL hF
    obtain ⟨t2, a1, b1⟩ := kk r u t T'.heap (locs ++ L) e1.symm (by rw [← e2]; exact X'.warmed.alike) hp hb k1 k2 k3 T' rfl X'
    exact ⟨t2, st t2 a1, b1⟩
  · obtain ⟨k1, k2, k3⟩ := vx_keep h0 e1 hS hAX hf hL hF
    obtain ⟨t2, a1, b1⟩ := kx E ce q u t T'.heap (locs ++ L) e1.symm (by rw [← e2]; exact X'.warmed.alike) hp hb k1 k2 k3 (by rw [e1]; exact hce) hcv hcl T' rfl X'
    exact ⟨t2, st.trans a1, b1⟩
theorem vx_callv {S SX : Type} {post : S → Prop} {px : SX → Prop} {B : S → State → Prop} {BX : String → SX → State → Prop} {AX : Nat → Prop} (hr : vx_Run p l e R s m args below meth c H locs cells slots mc ms (F0 m pc ls st0) rest (va_Qv post B A1 a) (vx_X px BX AX) free) (hS : va_S A0 H0 H locs) (hA : ∀ q, q < H.size → A1 q → A0 q) (hf : ∀ q, free q → A0 q) (hAX : ∀ q, q < H.size → AX q → A0 q)
    (kx : ∀ (E : String) (ce : Cell) (q9 : Addr) (u : SX) (t : State) (H1 : Heap) (locs1 : List Loc), t.heap = H1 → s.vm.Alike t.vm → px u → BX E u t → H.size ≤ H1.size → (∀ q : Nat, q < H.size → ¬ AX q → H1[q]? = H[q]?) → va_S A0 H0 H1 locs1 → H1[q9]? = some ce → ce.vm = .none → s.vm.findClass E = some ce.cls → vx_W p l e R s m args below meth c H1 locs1 (cells + mc) (slots + ms) Q (F0 m pc ls rest) q9)
    (kk : ∀ (u : S) (t : State) (H1 : Heap) (locs1 : List Loc), t.heap = H1 → s.vm.Alike t.vm → post u → B u t → H.size ≤ H1.size → (∀ q : Nat, q < H.size → ¬ A1 q → H1[q]? = H[q]?) → va_S A0 H0 H1 locs1 → W p l e R s m args below meth c H1 locs1 (cells + mc) (slots + ms) Q (F0 m (pc + 3) ls (rest))) : W p l e R s m args below meth c H locs cells slots Q (F0 m pc ls st0) := by
  intro T hT X
  rcases hr T hT X with ⟨v, st₀, t, T', L, h0, X', hL, e1, e2, ⟨⟨u, hv, hp, hb⟩, hF⟩, st⟩ | ⟨q, st₀, t, T', L, E, ce, h0, X', hL, e1, e2, ⟨u, hp, hb, hF⟩, hce, hcv, hcl, st⟩
  · cases hv
    obtain ⟨k1, k2, k3⟩ := vx_keep h0 e1 hS hA hf hL hF
    obtain ⟨t2, a1, b1⟩ := kk u t T'.heap (locs ++ L) e1.symm (by rw [← e2]; exact X'.warmed.alike) hp hb k1 k2 k3 T' rfl X'
    exact ⟨t2, st t2 a1, b1⟩
  · obtain ⟨k1, k2, k3⟩ := vx_keep h0 e1 hS hAX hf hL hF
    obtain ⟨t2, a1, b1⟩ := kx E ce q u t T'.heap (locs ++ L) e1.symm (by rw [← e2]; exact X'.warmed.alike) hp hb k1 k2 k3 (by rw [e1]; exact hce) hcv hcl T' rfl X'
    exact ⟨t2, st.trans a1, b1⟩
/-- caught by the row x of this method's table; the rows ahead don't take it -/
theorem vx_catch {own name : String} {E : String} {ce : Cell} {q : Addr} (hown : s.vm.findClass own = some m.cls) (pre : List ExceptionTableEntry) (x : ExceptionTableEntry) (suf : List ExceptionTableEntry) (hsplit : c.exceptionTable.toList = pre ++ x :: suf)
    (hpass : ∀ z ∈ pre, covers z pc = false ∨ (z.catchType ≠ 0 ∧ ∃ nm : String, (Cond.classLink own z.catchType nm).before args s = true ∧ va_Nc E nm s)) (hx : covers x pc = true) (h0 : x.catchType ≠ 0)
    (hlink : (Cond.classLink own x.catchType name).before args s = true) (hcast : (Cond.castable E name).before args s = true) (hcell : H[q]? = some ce) (hv : ce.vm = .none) (hcl : s.vm.findClass E = some ce.cls)
    (kk : W p l e R s m args below meth c H locs cells slots Q (F0 m x.handlerPc ls [.ref q])) : vx_W p l e R s m args below meth c H locs cells slots Q (F0 m pc ls rest) q := by
  intro T hT X
  have hpl : e.platform.magicAccessors = ({} : Platform).magicAccessors := by rw [X.admits.platform]
  obtain ⟨c3, c4, hc3, hc4, hasg⟩ := Cond.castable_spec hcast
  cases Option.some.inj (hc3.symm.trans hcl)
  obtain ⟨c5, hc5, hcl5⟩ := Cond.classLink_spec hown hlink e.platform hpl
  cases Option.some.inj (hc4.symm.trans hc5)
  obtain ⟨vm', X', st⟩ := X.thenCaughtThrough q (g := F0 m pc ls rest) rfl (Steps.refl _) (by rw [hT]; exact hcell) (by rw [hv]; rfl) (by obtain ⟨k9, h9, -⟩ := Vm.findClass_spec hcl; exact ⟨k9, h9⟩) pre x suf hsplit
    (fun z hz => by
      rcases hpass z hz with h | ⟨hz0, nm, hl1, hn1⟩
      · exact Or.inl h
      · obtain ⟨c6, hc6, hcl6⟩ := Cond.classLink_spec hown hl1 e.platform hpl
        obtain ⟨a8, b8, h1, h2, h3⟩ := hn1
        cases Option.some.inj (h1.symm.trans hcl)
        cases Option.some.inj (h2.symm.trans hc6)
        exact Or.inr ⟨hz0, _, hcl6, h3⟩) hx (Or.inr ⟨h0, c4, hcl5, hasg⟩)
  obtain ⟨t, a1, b1⟩ := kk (T.setVm vm') hT X'
  exact ⟨t, st.trans a1, b1⟩
end Rows
section Ends
variable {p : Program} {l : Launch} {e : Env} {R : Room} {s : State} {m : MethodId} {args : Array Value} {below : List Frame} {meth : Method} {c : Code} {H : Heap} {locs : List Loc} {cells slots : Nat} {Q : State → Prop}
variable {mc ms : Nat} {free : Addr → Prop} {A0 A1 : Nat → Prop} {H0 : Heap} {a : Array Value} {ls : Array Slot} {st0 rest : List Value}
variable {Qc : Array Value → State → Outcome → State → Prop} {XC : String → State → State → Prop}
/-- what a body that may throw owes at its end -/
def vx_MQ (below : List Frame) (Qc : Array Value → State → Outcome → State → Prop) (XC : String → State → State → Prop) (a : Array Value) (s : State) (mc ms : Nat) (free : Addr → Prop) : State → Prop := fun t =>
  ∃ o, t.status = .running ∧ Ended t below o ∧ vx_Q Qc XC mc ms free a s o t
theorem vx_ret {g : JFrame} {mc ms : Nat} (k : W p l e R s m args below meth c H locs cells slots (MQ below Qc args s mc ms free) g) : W p l e R s m args below meth c H locs cells slots (vx_MQ below Qc XC args s mc ms free) g := by
  intro T hT X
  obtain ⟨t, a1, o, b1, b2, b3, b4⟩ := k T hT X
  exact ⟨t, a1, o, b1, b2, Or.inl ⟨b3, b4⟩⟩
/-- not caught here: it goes on to the caller -/
theorem vx_widen {g : JFrame} {q : Addr} {k n : Nat} (h1 : cells ≤ k) (h2 : slots ≤ n) (kk : vx_W p l e R s m args below meth c H locs k n Q g q) : vx_W p l e R s m args below meth c H locs cells slots Q g q := fun T hT X => kk T hT (stand_widen X h1 h2)
theorem vx_out {pc : Nat} {E : String} {ce : Cell} {q : Addr} {mc ms : Nat} (hout : ∀ x ∈ c.exceptionTable.toList, covers x pc = false) (hlocks : meth.locks = false) (hcell : H[q]? = some ce) (hv : ce.vm = .none) (hcl : s.vm.findClass E = some ce.cls)
    (hx : ∀ t : State, t.heap = H → s.vm.Alike t.vm → XC E s t) (hf : ∀ z ∈ locs, free z.base) (hc : cells ≤ mc) (hs : slots ≤ ms) :
    vx_W p l e R s m args below meth c H locs cells slots (vx_MQ below Qc XC args s mc ms free) (F0 m pc ls rest) q := by
  intro T hT X
  obtain ⟨st1, hrun, hend, hW, hsm⟩ := X.leaveThrown q (g := F0 m pc ls rest) rfl rfl rfl hout hlocks
  have hcell9 : (T.setFrames (.throwing q :: below)).heap[q]? = some ce := by
    show T.heap[q]? = some ce
    rw [hT]; exact hcell
  exact ⟨_, st1, .threw q, hrun, hend, Or.inr ⟨q, rfl, E, ce, locs, hx _ hT hW.alike, hcell9, hv, hcl, hW, hsm.mono hc hs, hf⟩⟩
theorem vx_frame {U : State} {k n : Nat} (h : s.sameButNew ({ U with vm := s.vm } : State) locs k n) : s.heap.size ≤ U.heap.size ∧ ∀ q : Nat, q < s.heap.size → (∀ z ∈ locs, z.base ≠ q) → U.heap[q]? = s.heap[q]? := by
  obtain ⟨-, h2, -, -, -, h6⟩ := h
  refine ⟨h2, fun q hq hz => ?_⟩
  obtain ⟨c9, e1, e2, e3, e4⟩ := h6 q _ (Array.getElem?_eq_getElem hq)
  have hs : c9.slots = (s.heap[q]).slots := Array.ext_getElem? fun i => e4 i fun hm => hz _ hm rfl
  have h9 : c9 = s.heap[q] := by
    rw [hs] at e2
    exact e2
  have e5 : U.heap[q]? = some c9 := e1
  rw [e5, h9, Array.getElem?_eq_getElem hq]
/-- the words of a throw but the four that speak of the heap -/
def vx_no (w : Cond) : Bool := decide (w ≠ .isRef (.static Bundle.tN "UNASSIGNED_STACK" Bundle.steD)) && decide (w ≠ .isRef (.static Bundle.tN "SUPPRESSED_SENTINEL" Bundle.listD)) && decide (w ≠ .laysStatic Bundle.tN "UNASSIGNED_STACK" Bundle.steD) && decide (w ≠ .laysStatic Bundle.tN "SUPPRESSED_SENTINEL" Bundle.listD)
def vx_at0 (own : String) (ic : Nat) (X : String) (names : List String) : List Cond := (Bundle.ownAtoms0 own ic X names).filter vx_no
def vx_atS (own : String) (ic : Nat) (X : String) (names : List String) : List Cond := (Bundle.ownAtoms own ic X names).filter vx_no
/-- a word that the tables alone decide, or a good one -/
def vx_ot (w : Cond) : Bool := w.onTables || goodWord w
theorem vx_ot_at {args a' : Array Value} {s U : State} {w : Cond} (hW : s.WarmedH U.vm) (hvm : s.vm = U.vm) (hg : vx_ot w = true) (h : w.before args s = true) : w.before a' U = true := by
  simp only [vx_ot, Bool.or_eq_true] at hg
  rcases hg with hg | hg
  · exact va_tabs hg hvm h
  · exact word_at hW (good_of_word hg) h
/-- a list's words: the good ones out of the method's own list, the others by premises of their own -/
theorem vx_hat {args : Array Value} {s : State} {L B : List Cond} (h1 : ∀ w ∈ L.filter goodWord, w.before args s = true) (h2 : ∀ w ∈ L.filter (fun w => !goodWord w), w ∈ B) (h3 : ∀ w ∈ B, w.before args s = true) : ∀ w ∈ L, w.before args s = true := by
  intro w hw
  by_cases g : goodWord w = true
  · exact h1 w (List.mem_filter.mpr ⟨hw, g⟩)
  · refine h3 w (h2 w (List.mem_filter.mpr ⟨hw, ?_⟩))
    show (!goodWord w) = true
    cases hgw : goodWord w
    · rfl
    · exact absurd hgw g
theorem vx_c {args : Array Value} {s : State} {w : Cond} {B : List Cond} (h : w.before args s = true) (t : ∀ w ∈ B, w.before args s = true) : ∀ w' ∈ w :: B, w'.before args s = true := fun w' h' => (List.mem_cons.mp h').elim (fun e => by rw [e]; exact h) (t w')
theorem vx_n {args : Array Value} {s : State} : ∀ w ∈ ([] : List Cond), w.before args s = true := fun _ h => nomatch h
theorem vx_own {args : Array Value} {s : State} {L : List Cond} (h1 : ∀ w ∈ L.filter vx_no, w.before args s = true)
    (hU : (Cond.isRef (.static Bundle.tN "UNASSIGNED_STACK" Bundle.steD)).before args s = true) (hN : (Cond.isRef (.static Bundle.tN "SUPPRESSED_SENTINEL" Bundle.listD)).before args s = true)
    (lU : (Cond.laysStatic Bundle.tN "UNASSIGNED_STACK" Bundle.steD).before args s = true) (lN : (Cond.laysStatic Bundle.tN "SUPPRESSED_SENTINEL" Bundle.listD).before args s = true) : ∀ w ∈ L, w.before args s = true := by
  intro w hw
  by_cases e1 : w = .isRef (.static Bundle.tN "UNASSIGNED_STACK" Bundle.steD)
  · rw [e1]; exact hU
  · by_cases e2 : w = .isRef (.static Bundle.tN "SUPPRESSED_SENTINEL" Bundle.listD)
    · rw [e2]; exact hN
    · by_cases e3 : w = .laysStatic Bundle.tN "UNASSIGNED_STACK" Bundle.steD
      · rw [e3]; exact lU
      · by_cases e4 : w = .laysStatic Bundle.tN "SUPPRESSED_SENTINEL" Bundle.listD
        · rw [e4]; exact lN
        · exact h1 w (List.mem_filter.mpr ⟨hw, by unfold vx_no; rw [decide_eq_true e1, decide_eq_true e2, decide_eq_true e3, decide_eq_true e4]; rfl⟩)
/-- where a static field lies, its class's statics cell in H -/
def vx_L (C n d : String) (A : Nat → Prop) (U : State) (H : Heap) : Prop := ∃ (c : ClassId) (k : Class) (i : Nat) (f : Field) (a : Nat) (cell : Cell), U.vm.findClass C = some c ∧ U.fieldFound? C n d = some (c, k, i, f) ∧ f.isStatic = true ∧ k.statics = some a ∧ H[a]? = some cell ∧ cell.vm.isStatics = true ∧ cell.cls = c ∧ f.slot < cell.slots.size ∧ k.staticTypes[f.slot]? = some f.type ∧ ¬ A a
theorem vx_L.moved {C n d : String} {A : Nat → Prop} {u U : State} {H : Heap} (hvm : u.vm.Alike U.vm) (h : vx_L C n d A u H) : vx_L C n d A U H := by
  obtain ⟨c, k, i, f, a, cell, h1, h2, h3, h4, h5, h6, h7, h8, h9, h10⟩ := h
  obtain ⟨k', hi', he⟩ := State.fieldFound?_setVm hvm h2
  exact ⟨c, k', i, f, a, cell, by rw [hvm.findClass]; exact h1, hi', h3, by rw [he]; exact h4, h5, h6, h7, h8, by rw [he]; exact h9, h10⟩
theorem vx_L.kept {C n d : String} {A : Nat → Prop} {U : State} {H H1 : Heap} (h : vx_L C n d A U H) (hq : ∀ a : Nat, a < H.size → ¬ A a → H1[a]? = H[a]?) : vx_L C n d A U H1 := by
  obtain ⟨c, k, i, f, a, cell, h1, h2, h3, h4, h5, h6, h7, h8, h9, h10⟩ := h
  exact ⟨c, k, i, f, a, cell, h1, h2, h3, h4, by rw [hq a (Array.getElem?_eq_some_iff.mp h5).1 h10]; exact h5, h6, h7, h8, h9, h10⟩
theorem vx_L.narrow {C n d : String} {A B : Nat → Prop} {U : State} {H : Heap} (h : vx_L C n d A U H) (hAB : ∀ q, B q → A q) : vx_L C n d B U H := by
  obtain ⟨c, k, i, f, a, cell, h1, h2, h3, h4, h5, h6, h7, h8, h9, h10⟩ := h
  exact ⟨c, k, i, f, a, cell, h1, h2, h3, h4, h5, h6, h7, h8, h9, fun z => h10 (hAB _ z)⟩
theorem vx_L.word {C n d : String} {A : Nat → Prop} {s : State} {args : Array Value} (h : vx_L C n d A s s.heap) : (Cond.laysStatic C n d).before args s = true := by
  obtain ⟨c, k, i, f, a, cell, h1, h2, h3, h4, h5, h6, h7, h8, h9, -⟩ := h
  show (Cond.laysStatic C n d).holds args s none s [] = true
  exact Cond.laysStatic_of h1 h2 h3 h4 h5 h6 h7 h8 h9
/-- .. and what it holds: null or some reference -/
def vx_Zq (C n d : String) (A : Nat → Prop) (U : State) (H : Heap) : Prop := va_Zq C n d A U H ∧ vx_L C n d A U H
theorem vx_Zq.moved {C n d : String} {A : Nat → Prop} {u U : State} {H : Heap} (hvm : u.vm.Alike U.vm) (h : vx_Zq C n d A u H) : vx_Zq C n d A U H := ⟨va_Zq.moved hvm h.1, vx_L.moved hvm h.2⟩
theorem vx_Zq.kept {C n d : String} {A : Nat → Prop} {U : State} {H H1 : Heap} (h : vx_Zq C n d A U H) (hq : ∀ a : Nat, a < H.size → ¬ A a → H1[a]? = H[a]?) : vx_Zq C n d A U H1 := ⟨va_Zq.kept h.1 hq, vx_L.kept h.2 hq⟩
theorem vx_Zq.narrow {C n d : String} {A B : Nat → Prop} {U : State} {H : Heap} (h : vx_Zq C n d A U H) (hAB : ∀ q, B q → A q) : vx_Zq C n d B U H := ⟨va_Zq.narrow h.1 hAB, vx_L.narrow h.2 hAB⟩
theorem vx_Zqof {args : Array Value} {s : State} {C n d : String} {A : Nat → Prop} (hl : (Cond.laysStatic C n d).before args s = true) (hini : (Cond.initialized C).before args s = true) (h : (Cond.isRef (.static C n d)).before args s = true) (hA : ∀ a : Nat, a < s.heap.size → ¬ A a) : vx_Zq C n d A s s.heap := by
  refine ⟨va_Zqof hl hini h hA, ?_⟩
  obtain ⟨c, k, i, f, a, cell, h1, h2, h3, h4, h5, h6, h7, h8, h9⟩ := Cond.laysStatic_spec hl
  exact ⟨c, k, i, f, a, cell, h1, h2, h3, h4, h5, h6, h7, h8, h9, hA a (Array.getElem?_eq_some_iff.mp h5).1⟩
theorem vx_isRef {C n d : String} {v : Value} {A : Nat → Prop} {s : State} {args : Array Value} (h : va_Z C n d v A s s.heap) (hv : v.isRef = true) : (Cond.isRef (.static C n d)).before args s = true := by
  obtain ⟨cf, kf, fi, f, a, cell, h1, h2, h3, h4, h5, h6, h7, -⟩ := h
  have he : (Term.static C n d).eval args s none [] s = some v := by
    simp [Term.eval, State.fieldNamed?, h1, h2, h4, h5, h6, h7]
  simp only [Cond.before, Cond.holds, Cond.value, he]
  cases v <;> simp_all [Value.isRef]
theorem vx_isRefq {C n d : String} {A : Nat → Prop} {s : State} {args : Array Value} (h : va_Zq C n d A s s.heap) : (Cond.isRef (.static C n d)).before args s = true := by
  rcases h with h | ⟨t, h⟩
  · exact vx_isRef h rfl
  · exact vx_isRef h rfl
/-- the same frame, seen from here: as if the method were called anew in this heap -/
theorem vx_rebase {T : State} (X : Stand p l e R s m args below meth c T locs cells slots) {R' : Room} (hf : R'.frames ≤ R.frames) (hl : R'.locals ≤ R.locals) (hc : cells + R'.cells ≤ R.cells) (hs : slots + R'.slots ≤ R.slots) :
    Stand p l e R' ((T.setVm s.vm).setFrames (.invoking m args :: below)) m args below meth c T [] 0 0 := by
  have htop : (T.setVm s.vm).topJava?.isSome := X.here.top
  have hF : ((T.setVm s.vm).setFrames (.invoking m args :: below)).frames = .invoking m args :: below := State.frames_setFrames _ (State.cur_lt_of_top htop)
  obtain ⟨g₀, hg0⟩ := Option.isSome_iff_exists.mp htop
  obtain ⟨r, hr⟩ := State.topJava?_eq_some.mp hg0
  have hl9 : e.platform.stackLimits (T.setVm s.vm).me = e.platform.stackLimits s.me := X.limits
  have hb9 : (T.setVm s.vm).me.stackBytes = s.me.stackBytes := X.bytes
  refine ⟨X.admits, X.cas, X.clock, hF, ?_, X.hears, X.method, X.code, X.here, X.tail, X.warmed, ?_, ?_, ?_⟩
  · have h := X.room
    have hU : ((T.setVm s.vm).setFrames (.invoking m args :: below)).localsInUse = s.localsInUse := by
      rw [State.localsInUse_invoking hF (meth := meth) (c := c) X.method X.code, State.localsInUse_invoking X.frames X.method X.code]
    simp only [State.hasRoom, Bool.and_eq_true, decide_eq_true_eq] at h ⊢
    obtain ⟨⟨⟨⟨h1, h2, h3, h4, h5, h6⟩, h7⟩, h8⟩, h9⟩ := h
    rw [X.frames, List.length_cons] at h2 h3
    have q1 := X.heapSize
    have q2 := X.used
    simp only [hF, hU, List.length_cons, State.stackLimits_setFrames, State.stackBytes_setFrames, hl9, hb9]
    refine ⟨⟨⟨⟨by omega, by omega, by omega, by omega, by omega, h6⟩, ?_⟩, ?_⟩, X.book⟩
    · show T.heap.size + R'.cells ≤ e.platform.maxCells
      omega
    · show T.slotsUsed + R'.slots ≤ e.platform.maxSlots
      omega
  · rw [State.stackLimits_setFrames]; rfl
  · rw [State.stackBytes_setFrames]; rfl
  · refine ⟨?_, Nat.le_refl _, Nat.le_refl _, ?_, ?_, fun a c9 h9 => ⟨c9, h9, rfl, rfl, fun _ _ => rfl⟩⟩
    · obtain ⟨t, ht, -⟩ := State.frames_cons hr
      show T.setVm s.vm = { ((T.setVm s.vm).setFrames (.invoking m args :: below)).setFrames (T.setVm s.vm).frames with heap := T.heap, slotsUsed := T.slotsUsed }
      rw [State.setFrames_setFrames, State.setFrames_self ht]
      rfl
    · show T.slotsUsed = T.slotsUsed + ((T.heap.toList.drop T.heap.size).map (·.slots.size)).sum
      rw [List.drop_eq_nil_of_le (Nat.le_of_eq Array.length_toList)]
      rfl
    · show ((T.heap.toList.drop T.heap.size).map (·.slots.size)).sum ≤ 0
      rw [List.drop_eq_nil_of_le (Nat.le_of_eq Array.length_toList)]
      exact Nat.le_refl _
/-- 'throw new E()': new; dup; invokespecial; athrow -/
theorem vx_throw0 {cc : ByteArray} {pc : Nat} (hexec : p.tables.exec = Jvm.exec) (hb : c.code = cc) (hl : l.stackTraces = false) {own cls : String} {names : List String} {ik ic mc ms : Nat} {A : Nat → Prop}
    (hown : s.vm.findClass own = some m.cls) (hcls : Bundle.fit cls = true) (hnames : ∀ n ∈ names, Bundle.fit n = true)
    (hk : (Cond.classLink own ik cls).before args s = true) (hini : (Cond.initialized cls).before args s = true) (hat : ∀ w ∈ vx_at0 own ic cls names, w.before args s = true)
    (hgood : ∀ w ∈ Cond.classLink own ik cls :: Cond.initialized cls :: vx_at0 own ic cls names, vx_ot w = true)
    (hU : vx_Zq Bundle.tN "UNASSIGNED_STACK" Bundle.steD A s s.heap) (hN : vx_Zq Bundle.tN "SUPPRESSED_SENTINEL" Bundle.listD A s s.heap) (hS : va_S A s.heap H locs) (hsize : ls.size = c.maxLocals)
    (d0 : decode cc pc = .ok (.new ik, 3)) (d3 : decode cc (pc + 3) = .ok (.dup, 1)) (d4 : decode cc (pc + 4) = .ok (.invokespecial ic, 3)) (d7 : decode cc (pc + 7) = .ok (.athrow, 1))
    (hout : ∀ x ∈ c.exceptionTable.toList, covers x (pc + 7) = false)
    (hRframes : names.length + 3 < R.frames) (hRlocals : (rest.map fun v => v.category).sum + (13 * (names.length + 1) + 42) ≤ R.locals) (hRcells : cells + 1 ≤ R.cells) (hRslots : slots + 6 ≤ R.slots) (hlocks : meth.locks = false)
    (hx : ∀ t : State, s.vm.Alike t.vm → H.size ≤ t.heap.size → (∀ q : Nat, q < H.size → t.heap[q]? = H[q]?) → XC cls s t)
    (hf : ∀ z ∈ locs, free z.base) (hc : cells + 1 ≤ mc) (hs : slots + 6 ≤ ms) :
    W p l e R s m args below meth c H locs cells slots (vx_MQ below Qc XC args s mc ms free) (F0 m pc ls rest) := by
  intro T hT X
  have htr : e.platform.stackTraces = false := (show e.platform.stackTraces = l.stackTraces by rw [X.admits.platform]).trans hl
  have Y := vx_rebase X (R' := { frames := R.frames, locals := R.locals, cells := 1, slots := 6 }) (Nat.le_refl _) (Nat.le_refl _) hRcells hRslots
  obtain ⟨s', hA⟩ : ∃ z, z = (T.setVm s.vm).setFrames (.invoking m args :: below) := ⟨_, rfl⟩
  rw [← hA] at Y
  have hvm : s'.vm = s.vm := by rw [hA]; rfl
  have hhp : s'.heap = H := by rw [hA]; exact hT
  have hW0 : s.WarmedH s'.vm := by rw [hvm]; exact State.WarmedH.refl s
  have hat' : ∀ w ∈ vx_at0 own ic cls names, w.before args s' = true := fun w hw => vx_ot_at hW0 hvm.symm (hgood w (List.mem_cons_of_mem _ (List.mem_cons_of_mem _ hw))) (hat w hw)
  have hk' : (Cond.classLink own ik cls).before args s' = true := vx_ot_at hW0 hvm.symm (hgood _ List.mem_cons_self) hk
  have hini' : (Cond.initialized cls).before args s' = true := vx_ot_at hW0 hvm.symm (hgood _ (List.mem_cons_of_mem _ List.mem_cons_self)) hini
  have hU' : vx_Zq Bundle.tN "UNASSIGNED_STACK" Bundle.steD A s' s'.heap := by rw [hhp]; exact vx_Zq.moved hW0.alike (hU.kept hS.2.1)
  have hN' : vx_Zq Bundle.tN "SUPPRESSED_SENTINEL" Bundle.listD A s' s'.heap := by rw [hhp]; exact vx_Zq.moved hW0.alike (hN.kept hS.2.1)
  have h : ∀ w ∈ Bundle.ownAtoms0 own ic cls names, w.before args s' = true := vx_own hat' (vx_isRefq hU'.1) (vx_isRefq hN'.1) hU'.2.word hN'.2.word
  have hown' : s'.vm.findClass own = some m.cls := by rw [hvm]; exact hown
  have hins : (Cond.instantiable cls 6).before args s' = true := h _ (by simp [Bundle.ownAtoms0])
  obtain ⟨vm₁, cX, kX, hfX, hkX, -, -, X₁, st1⟩ := Y.newCold hexec (own := own) (C := cls) (index := ik) (n := 6) hown' hk' hins hini'
    (g := F0 m pc ls rest) rfl (by rw [hb]; exact d0) (Nat.le_refl _) (Nat.le_refl _)
  generalize hT1 : (T.setVm vm₁).pushCell { cls := cX, slots := kX.instanceTypes.map defaultValue, vm := .none } = T1 at X₁ st1
  have hcat : (Value.ref T.heap.size).category = 1 := rfl
  have hcellA : T1.heap[T.heap.size]? = some (freshCell cX kX) := by rw [← hT1]; exact State.heap_pushCell_size _ _
  have d3' : decode c.code (pc + 3) = .ok (.dup, 1) := by rw [hb]; exact d3
  obtain ⟨U, hsteps, hrun, hend, hW, hsame, ce, hce, hO⟩ := X₁.ctorThrow0 hexec htr (own := own) (cls := cls) (names := names) (ic := ic) hown' hcls hnames h (fun x hx => nomatch hx) hfX hkX hcellA (by rw [hhp, hT]; exact Nat.le_refl _)
    (g := { method := m, pc := pc + 4, locals := ls, stack := .ref T.heap.size :: .ref T.heap.size :: rest, locked := none }) rfl hsize rfl rfl (rest := rest) rfl
    (by rw [hb]; exact d4) (by rw [hb]; exact d7) hout hRframes (by simp only [List.map_cons, List.sum_cons, hcat]; omega) hlocks
  obtain ⟨f1, f2⟩ := vx_frame hsame
  rw [hhp] at f1 f2
  have hWs : s.WarmedH U.vm := State.WarmedH.trans hW0 hW
  have hcl : s.vm.findClass cls = some ce.cls := by
    have h9 := hO.cls
    rw [hvm] at h9
    exact h9
  have hall : s.sameButNew ({ U with vm := s.vm } : State) locs mc ms := by
    subst hA
    obtain ⟨e1, e2⟩ := hsame
    rw [State.setFrames_setFrames] at e1
    have h2 : (T.setVm s.vm).sameButNew ({ U with vm := s.vm } : State) [] (0 + 1) (0 + 6) := ⟨e1, e2⟩
    have h3 := X.same.trans h2
    rw [List.append_nil] at h3
    exact h3.mono hc hs
  refine ⟨U, ?_, .threw T.heap.size, hrun, hend, Or.inr ⟨T.heap.size, rfl, cls, ce, locs, hx U hWs.alike f1 (fun q hq => f2 q hq (fun z hz => nomatch hz)), hce, hO.vm, hcl, hWs, hall, hf⟩⟩
  refine st1 _ ?_
  show Steps p.tables e below (T1.setTop { method := m, pc := pc + 3, locals := ls, stack := .ref T.heap.size :: rest, locked := none }) _
  jvm_step X₁.here [X₁.here.top, hexec, d3', Value.category]
  exact hsteps
/-- 'throw new E("text")': new; dup; ldc; invokespecial; athrow -/
theorem vx_throwS {cc : ByteArray} {pc : Nat} (hexec : p.tables.exec = Jvm.exec) (hb : c.code = cc) (hl : l.stackTraces = false) {own cls text : String} {names : List String} {ik is ic mc ms sa : Nat} {A : Nat → Prop}
    (hown : s.vm.findClass own = some m.cls) (hcls : Bundle.fit cls = true) (hnames : ∀ n ∈ names, Bundle.fit n = true)
    (hk : (Cond.classLink own ik cls).before args s = true) (hini : (Cond.initialized cls).before args s = true) (hstr : vk_R own is text sa s) (hat : ∀ w ∈ vx_atS own ic cls names, w.before args s = true)
    (hgood : ∀ w ∈ Cond.classLink own ik cls :: Cond.initialized cls :: vx_atS own ic cls names, vx_ot w = true)
    (hU : vx_Zq Bundle.tN "UNASSIGNED_STACK" Bundle.steD A s s.heap) (hN : vx_Zq Bundle.tN "SUPPRESSED_SENTINEL" Bundle.listD A s s.heap) (hS : va_S A s.heap H locs) (hsize : ls.size = c.maxLocals)
    (d0 : decode cc pc = .ok (.new ik, 3)) (d3 : decode cc (pc + 3) = .ok (.dup, 1)) (d4 : decode cc (pc + 4) = .ok (.ldc is, 2)) (d6 : decode cc (pc + 6) = .ok (.invokespecial ic, 3)) (d9 : decode cc (pc + 9) = .ok (.athrow, 1))
    (hout : ∀ x ∈ c.exceptionTable.toList, covers x (pc + 9) = false)
    (hRframes : names.length + 3 < R.frames) (hRlocals : (rest.map fun v => v.category).sum + (13 * (names.length + 1) + 43) ≤ R.locals) (hRcells : cells + 1 ≤ R.cells) (hRslots : slots + 6 ≤ R.slots) (hlocks : meth.locks = false)
    (hx : ∀ t : State, s.vm.Alike t.vm → H.size ≤ t.heap.size → (∀ q : Nat, q < H.size → t.heap[q]? = H[q]?) → XC cls s t)
    (hf : ∀ z ∈ locs, free z.base) (hc : cells + 1 ≤ mc) (hs : slots + 6 ≤ ms) :
    W p l e R s m args below meth c H locs cells slots (vx_MQ below Qc XC args s mc ms free) (F0 m pc ls rest) := by
  intro T hT X
  have htr : e.platform.stackTraces = false := (show e.platform.stackTraces = l.stackTraces by rw [X.admits.platform]).trans hl
  have Y := vx_rebase X (R' := { frames := R.frames, locals := R.locals, cells := 1, slots := 6 }) (Nat.le_refl _) (Nat.le_refl _) hRcells hRslots
  obtain ⟨s', hA⟩ : ∃ z, z = (T.setVm s.vm).setFrames (.invoking m args :: below) := ⟨_, rfl⟩
  rw [← hA] at Y
  have hvm : s'.vm = s.vm := by rw [hA]; rfl
  have hhp : s'.heap = H := by rw [hA]; exact hT
  have hW0 : s.WarmedH s'.vm := by rw [hvm]; exact State.WarmedH.refl s
  have hat' : ∀ w ∈ vx_atS own ic cls names, w.before args s' = true := fun w hw => vx_ot_at hW0 hvm.symm (hgood w (List.mem_cons_of_mem _ (List.mem_cons_of_mem _ hw))) (hat w hw)
  have hk' : (Cond.classLink own ik cls).before args s' = true := vx_ot_at hW0 hvm.symm (hgood _ List.mem_cons_self) hk
  have hini' : (Cond.initialized cls).before args s' = true := vx_ot_at hW0 hvm.symm (hgood _ (List.mem_cons_of_mem _ List.mem_cons_self)) hini
  have hU' : vx_Zq Bundle.tN "UNASSIGNED_STACK" Bundle.steD A s' s'.heap := by rw [hhp]; exact vx_Zq.moved hW0.alike (hU.kept hS.2.1)
  have hN' : vx_Zq Bundle.tN "SUPPRESSED_SENTINEL" Bundle.listD A s' s'.heap := by rw [hhp]; exact vx_Zq.moved hW0.alike (hN.kept hS.2.1)
  have h : ∀ w ∈ Bundle.ownAtoms own ic cls names, w.before args s' = true := vx_own hat' (vx_isRefq hU'.1) (vx_isRefq hN'.1) hU'.2.word hN'.2.word
  have hown' : s'.vm.findClass own = some m.cls := by rw [hvm]; exact hown
  have hins : (Cond.instantiable cls 6).before args s' = true := h _ (by simp [Bundle.ownAtoms])
  obtain ⟨vm₁, cX, kX, hfX, hkX, -, -, X₁, st1⟩ := Y.newCold hexec (own := own) (C := cls) (index := ik) (n := 6) hown' hk' hins hini'
    (g := F0 m pc ls rest) rfl (by rw [hb]; exact d0) (Nat.le_refl _) (Nat.le_refl _)
  generalize hT1 : (T.setVm vm₁).pushCell { cls := cX, slots := kX.instanceTypes.map defaultValue, vm := .none } = T1 at X₁ st1
  have hcat : (Value.ref T.heap.size).category = 1 := rfl
  have hcellA : T1.heap[T.heap.size]? = some (freshCell cX kX) := by rw [← hT1]; exact State.heap_pushCell_size _ _
  have d3' : decode c.code (pc + 3) = .ok (.dup, 1) := by rw [hb]; exact d3
  have d4' : decode c.code (pc + 4) = .ok (.ldc is, 2) := by rw [hb]; exact d4
  have hstr' : vk_R own is text sa s' := vk_R.warm hW0 hstr
  obtain ⟨U, hsteps, hrun, hend, hW, hsame, ce, hce, hO⟩ := X₁.ctorThrowS hexec htr (own := own) (cls := cls) (names := names) (ic := ic) hown' hcls hnames h (fun x hx => nomatch hx) hfX hkX hcellA (by rw [hhp, hT]; exact Nat.le_refl _) (msg := .ref sa) rfl
    (g := { method := m, pc := pc + 6, locals := ls, stack := .ref sa :: .ref T.heap.size :: .ref T.heap.size :: rest, locked := none }) rfl hsize rfl rfl (rest := rest) rfl
    (by rw [hb]; exact d6) (by rw [hb]; exact d9) hout hRframes (by simp only [List.map_cons, List.sum_cons, hcat]; omega) hlocks
  obtain ⟨f1, f2⟩ := vx_frame hsame
  rw [hhp] at f1 f2
  have hWs : s.WarmedH U.vm := State.WarmedH.trans hW0 hW
  have hcl : s.vm.findClass cls = some ce.cls := by
    have h9 := hO.cls
    rw [hvm] at h9
    exact h9
  have hall : s.sameButNew ({ U with vm := s.vm } : State) locs mc ms := by
    subst hA
    obtain ⟨e1, e2⟩ := hsame
    rw [State.setFrames_setFrames] at e1
    have h2 : (T.setVm s.vm).sameButNew ({ U with vm := s.vm } : State) [] (0 + 1) (0 + 6) := ⟨e1, e2⟩
    have h3 := X.same.trans h2
    rw [List.append_nil] at h3
    exact h3.mono hc hs
  refine ⟨U, ?_, .threw T.heap.size, hrun, hend, Or.inr ⟨T.heap.size, rfl, cls, ce, locs, hx U hWs.alike f1 (fun q hq => f2 q hq (fun z hz => nomatch hz)), hce, hO.vm, hcl, hWs, hall, hf⟩⟩
  refine st1 _ ?_
  show Steps p.tables e below (T1.setTop { method := m, pc := pc + 3, locals := ls, stack := .ref T.heap.size :: rest, locked := none }) _
  jvm_step X₁.here [X₁.here.top, hexec, d3', Value.category]
  exact X₁.ldcString hexec (own := own) (text := text) (index := is) (a := sa) hown' hstr'.1 hstr'.2
    (g := { method := m, pc := pc + 4, locals := ls, stack := .ref T.heap.size :: .ref T.heap.size :: rest, locked := none }) rfl d4' _ hsteps
/-- 'throw new E("text")', the text by a wide index -/
theorem vx_throwSW {cc : ByteArray} {pc : Nat} (hexec : p.tables.exec = Jvm.exec) (hb : c.code = cc) (hl : l.stackTraces = false) {own cls text : String} {names : List String} {ik is ic mc ms sa : Nat} {A : Nat → Prop}
    (hown : s.vm.findClass own = some m.cls) (hcls : Bundle.fit cls = true) (hnames : ∀ n ∈ names, Bundle.fit n = true)
    (hk : (Cond.classLink own ik cls).before args s = true) (hini : (Cond.initialized cls).before args s = true) (hstr : vk_R own is text sa s) (hat : ∀ w ∈ vx_atS own ic cls names, w.before args s = true)
    (hgood : ∀ w ∈ Cond.classLink own ik cls :: Cond.initialized cls :: vx_atS own ic cls names, vx_ot w = true)
    (hU : vx_Zq Bundle.tN "UNASSIGNED_STACK" Bundle.steD A s s.heap) (hN : vx_Zq Bundle.tN "SUPPRESSED_SENTINEL" Bundle.listD A s s.heap) (hS : va_S A s.heap H locs) (hsize : ls.size = c.maxLocals)
    (d0 : decode cc pc = .ok (.new ik, 3)) (d3 : decode cc (pc + 3) = .ok (.dup, 1)) (d4 : decode cc (pc + 4) = .ok (.ldc_w is, 3)) (d7 : decode cc (pc + 7) = .ok (.invokespecial ic, 3)) (d10 : decode cc (pc + 10) = .ok (.athrow, 1))
    (hout : ∀ x ∈ c.exceptionTable.toList, covers x (pc + 10) = false)
    (hRframes : names.length + 3 < R.frames) (hRlocals : (rest.map fun v => v.category).sum + (13 * (names.length + 1) + 43) ≤ R.locals) (hRcells : cells + 1 ≤ R.cells) (hRslots : slots + 6 ≤ R.slots) (hlocks : meth.locks = false)
    (hx : ∀ t : State, s.vm.Alike t.vm → H.size ≤ t.heap.size → (∀ q : Nat, q < H.size → t.heap[q]? = H[q]?) → XC cls s t)
    (hf : ∀ z ∈ locs, free z.base) (hc : cells + 1 ≤ mc) (hs : slots + 6 ≤ ms) :
    W p l e R s m args below meth c H locs cells slots (vx_MQ below Qc XC args s mc ms free) (F0 m pc ls rest) := by
  intro T hT X
  have htr : e.platform.stackTraces = false := (show e.platform.stackTraces = l.stackTraces by rw [X.admits.platform]).trans hl
  have Y := vx_rebase X (R' := { frames := R.frames, locals := R.locals, cells := 1, slots := 6 }) (Nat.le_refl _) (Nat.le_refl _) hRcells hRslots
  obtain ⟨s', hA⟩ : ∃ z, z = (T.setVm s.vm).setFrames (.invoking m args :: below) := ⟨_, rfl⟩
  rw [← hA] at Y
  have hvm : s'.vm = s.vm := by rw [hA]; rfl
  have hhp : s'.heap = H := by rw [hA]; exact hT
  have hW0 : s.WarmedH s'.vm := by rw [hvm]; exact State.WarmedH.refl s
  have hat' : ∀ w ∈ vx_atS own ic cls names, w.before args s' = true := fun w hw => vx_ot_at hW0 hvm.symm (hgood w (List.mem_cons_of_mem _ (List.mem_cons_of_mem _ hw))) (hat w hw)
  have hk' : (Cond.classLink own ik cls).before args s' = true := vx_ot_at hW0 hvm.symm (hgood _ List.mem_cons_self) hk
  have hini' : (Cond.initialized cls).before args s' = true := vx_ot_at hW0 hvm.symm (hgood _ (List.mem_cons_of_mem _ List.mem_cons_self)) hini
  have hU' : vx_Zq Bundle.tN "UNASSIGNED_STACK" Bundle.steD A s' s'.heap := by rw [hhp]; exact vx_Zq.moved hW0.alike (hU.kept hS.2.1)
  have hN' : vx_Zq Bundle.tN "SUPPRESSED_SENTINEL" Bundle.listD A s' s'.heap := by rw [hhp]; exact vx_Zq.moved hW0.alike (hN.kept hS.2.1)
  have h : ∀ w ∈ Bundle.ownAtoms own ic cls names, w.before args s' = true := vx_own hat' (vx_isRefq hU'.1) (vx_isRefq hN'.1) hU'.2.word hN'.2.word
  have hown' : s'.vm.findClass own = some m.cls := by rw [hvm]; exact hown
  have hins : (Cond.instantiable cls 6).before args s' = true := h _ (by simp [Bundle.ownAtoms])
  obtain ⟨vm₁, cX, kX, hfX, hkX, -, -, X₁, st1⟩ := Y.newCold hexec (own := own) (C := cls) (index := ik) (n := 6) hown' hk' hins hini'
    (g := F0 m pc ls rest) rfl (by rw [hb]; exact d0) (Nat.le_refl _) (Nat.le_refl _)
  generalize hT1 : (T.setVm vm₁).pushCell { cls := cX, slots := kX.instanceTypes.map defaultValue, vm := .none } = T1 at X₁ st1
  have hcat : (Value.ref T.heap.size).category = 1 := rfl
  have hcellA : T1.heap[T.heap.size]? = some (freshCell cX kX) := by rw [← hT1]; exact State.heap_pushCell_size _ _
  have d3' : decode c.code (pc + 3) = .ok (.dup, 1) := by rw [hb]; exact d3
  have d4' : decode c.code (pc + 4) = .ok (.ldc_w is, 3) := by rw [hb]; exact d4
  have hstr' : vk_R own is text sa s' := vk_R.warm hW0 hstr
  obtain ⟨U, hsteps, hrun, hend, hW, hsame, ce, hce, hO⟩ := X₁.ctorThrowS hexec htr (own := own) (cls := cls) (names := names) (ic := ic) hown' hcls hnames h (fun x hx => nomatch hx) hfX hkX hcellA (by rw [hhp, hT]; exact Nat.le_refl _) (msg := .ref sa) rfl
    (g := { method := m, pc := pc + 7, locals := ls, stack := .ref sa :: .ref T.heap.size :: .ref T.heap.size :: rest, locked := none }) rfl hsize rfl rfl (rest := rest) rfl
    (by rw [hb]; exact d7) (by rw [hb]; exact d10) hout hRframes (by simp only [List.map_cons, List.sum_cons, hcat]; omega) hlocks
  obtain ⟨f1, f2⟩ := vx_frame hsame
  rw [hhp] at f1 f2
  have hWs : s.WarmedH U.vm := State.WarmedH.trans hW0 hW
  have hcl : s.vm.findClass cls = some ce.cls := by
    have h9 := hO.cls
    rw [hvm] at h9
    exact h9
  have hall : s.sameButNew ({ U with vm := s.vm } : State) locs mc ms := by
    subst hA
    obtain ⟨e1, e2⟩ := hsame
    rw [State.setFrames_setFrames] at e1
    have h2 : (T.setVm s.vm).sameButNew ({ U with vm := s.vm } : State) [] (0 + 1) (0 + 6) := ⟨e1, e2⟩
    have h3 := X.same.trans h2
    rw [List.append_nil] at h3
    exact h3.mono hc hs
  refine ⟨U, ?_, .threw T.heap.size, hrun, hend, Or.inr ⟨T.heap.size, rfl, cls, ce, locs, hx U hWs.alike f1 (fun q hq => f2 q hq (fun z hz => nomatch hz)), hce, hO.vm, hcl, hWs, hall, hf⟩⟩
  refine st1 _ ?_
  show Steps p.tables e below (T1.setTop { method := m, pc := pc + 3, locals := ls, stack := .ref T.heap.size :: rest, locked := none }) _
  jvm_step X₁.here [X₁.here.top, hexec, d3', Value.category]
  exact X₁.ldcStringW hexec (own := own) (text := text) (index := is) (a := sa) hown' hstr'.1 hstr'.2
    (g := { method := m, pc := pc + 4, locals := ls, stack := .ref T.heap.size :: .ref T.heap.size :: rest, locked := none }) rfl d4' _ hsteps
end Ends
section Bodies
variable {l : Launch}
theorem vx_ofW {y : MethodName} {ws ws' : List Cond} {rm : Room} {Pc : Array Value → State → Prop} {Qc : Array Value → State → Outcome → State → Prop} {XC : String → State → State → Prop} {mc ms : Nat} {free : Addr → Prop} {cc : ByteArray} {maxL : Nat} {ret : Option FieldType}
    (hy : plainName y.cls = true) (hw : ws = Cond.code y cc maxL ret :: ws')
    (body : ∀ p e s m args below meth c s₁, BodyLoose p l y (headSpec ws rm) cc maxL ret e s m args below meth c s₁ → c.maxLocals = maxL → (∀ x ∈ c.exceptionTable.toList, False) → Pc args s →
      W p l e (headSpec ws rm).room s m args below meth c s.heap [] 0 0 (vx_MQ below Qc XC args s mc ms free) (entryFrame m args maxL)) : vx_Met l y ws rm Pc Qc XC mc ms free := by
  refine MetFree.of_bodyS (code := cc) (maxLocals := maxL) (ret := ret) hy ?_ ?_
  · intro args s m h hn
    obtain ⟨meth, c, h1, h2, h3, h4, h5, h6, -, -⟩ := Cond.code_spec hn (atoms_spec (ws := ws) h _ (by rw [hw]; exact List.mem_cons_self))
    exact ⟨meth, c, h1, h2, h3, h4, h5, h6⟩
  · intro p e s m args below meth c s₁ B hml hP _
    have hh0 : s₁.heap = s.heap := by rw [B.state]; rfl
    have ht : ∀ x ∈ c.exceptionTable.toList, False := by
      obtain ⟨meth9, c9, h1, h2, -, -, -, -, h7, -⟩ := Cond.code_spec B.named (atoms_spec (ws := ws) B.pre _ (by rw [hw]; exact List.mem_cons_self))
      cases Option.some.inj (h1.symm.trans B.method)
      cases Option.some.inj (h2.symm.trans (Stand.of_body B).code)
      intro x hx
      rw [Array.isEmpty_iff.mp h7] at hx
      cases hx
    obtain ⟨t, a1, o, b1, b2, b3⟩ := body p e s m args below meth c s₁ B hml ht hP s₁ hh0 (Stand.of_body B)
    exact ⟨t, o, a1, b1, b2, b3⟩
/-- the table of a body with handlers -/
theorem vx_table {p : Program} {x y : MethodName} {S : Spec} {cc bytes : ByteArray} {maxL maxL' : Nat} {ret ret' : Option FieldType} {e : Env} {s s₁ : State} {m : MethodId} {args : Array Value} {below : List Frame} {meth : Method} {c : Code} {hh : List (Nat × Nat × Nat × Nat)}
    (B : BodyLoose p l y S cc maxL ret e s m args below meth c s₁) (h : (Cond.codeWith y bytes maxL' ret' hh).before args s = true) : c.exceptionTable.toList = tableOf hh := by
  obtain ⟨m9, meth9, c9, hn9, h1, h2, -, -, h6, -⟩ := Cond.codeWith_spec h
  cases Option.some.inj (hn9.symm.trans B.named)
  cases Option.some.inj (h1.symm.trans B.method)
  cases Option.some.inj (h2.symm.trans (Stand.of_body B).code)
  rw [← h6, table_eq]
end Bodies
end VXA
/-! ===== END ===== -/
/-! ===== BEGIN a static call of a method with an exception table ===== -/
section VXS
variable {p : Program} {l : Launch} {e : Env} {R : Room} {s : State} {m : MethodId} {args : Array Value} {below : List Frame} {meth : Method} {c : Code} {T : State} {H : Heap} {locs : List Loc} {cells slots : Nat}
abbrev vx_CSW (R : Room) (s : State) (args : Array Value) (own : String) (index : Nat) (y : MethodName) (bytes : ByteArray) (maxL : Nat) (ret : Option FieldType) (hh : List (Nat × Nat × Nat × Nat)) (ws : List Cond) (rm : Room) (mc ms n : Nat) : Prop :=
  (rm.cells = mc ∧ rm.slots = ms ∧ rm.frames + 1 ≤ R.frames ∧ 8 + (maxL + 11) + rm.locals ≤ R.locals ∧ (∀ w ∈ ws, ∀ (a' : Array Value) (U : State), s.WarmedH U.vm → w.before a' U = true) ∧ Cond.codeWith y bytes maxL ret hh ∈ ws) ∧
  (Cond.codeWith y bytes maxL ret hh).before args s = true ∧ (Cond.initialized y.cls).before args s = true ∧ (y.cls ≠ "java/lang/invoke/MethodHandle" ∧ y.cls ≠ "java/lang/invoke/VarHandle") ∧
  (∀ sig, parseMethodDescriptor y.desc = some sig → n = sig.parameters.length) ∧ (Cond.methodLink own index y).before args s = true ∧ (Cond.static y).before args s = true
theorem vx_cwSW {own : String} {index maxL mc ms : Nat} {y : MethodName} {bytes : ByteArray} {ret : Option FieldType} {hh : List (Nat × Nat × Nat × Nat)} {Ts ws ws' : List Cond} {rm : Room} (n : Nat) (ht : ∀ w ∈ Ts, w.before args s = true) (hT : GoodIn Ts (va_wsS own index y ws)) (hw : ws = Cond.codeWith y bytes maxL ret hh :: ws') (hrc : rm.cells = mc) (hrs : rm.slots = ms)
    (hd : y.cls ≠ "java/lang/invoke/MethodHandle" ∧ y.cls ≠ "java/lang/invoke/VarHandle" ∧ (parseMethodDescriptor y.desc).map (fun d => d.parameters.length) = some n) (hR : rm.frames + 1 ≤ R.frames ∧ 8 + (maxL + 11) + rm.locals ≤ R.locals) :
    vx_CSW R s args own index y bytes maxL ret hh ws rm mc ms n := by
  have ok : ∀ w ∈ va_wsS own index y ws, w.before args s = true := fun w h => ht w (hT w h).1
  have hG : GoodIn Ts ws := fun w h => hT w (by unfold va_wsS; exact List.mem_append_right _ h)
  have hc : Cond.codeWith y bytes maxL ret hh ∈ ws := by rw [hw]; exact List.mem_cons_self
  refine ⟨⟨hrc, hrs, hR.1, hR.2, pay_in ht hG, hc⟩, ht _ (hG _ hc).1, ok _ (by simp [va_wsS]), ⟨hd.1, hd.2.1⟩, fun sig h => ?_, ok _ (by simp [va_wsS]), ok _ (by simp [va_wsS])⟩
  have h2 := hd.2.2
  rw [h] at h2
  exact (Option.some.inj h2).symm
theorem vx_callSW (X : Stand p l e R s m args below meth c T locs cells slots) (hexec : p.tables.exec = Jvm.exec) {own : String} {index : Nat} {y : MethodName} {bytes : ByteArray} {maxL : Nat} {ret : Option FieldType} {hh : List (Nat × Nat × Nat × Nat)}
    (hown : s.vm.findClass own = some m.cls) (hlink : (Cond.methodLink own index y).before args s = true) (hstat : (Cond.static y).before args s = true) (hinit : (Cond.initialized y.cls).before args s = true)
    (hcode : (Cond.codeWith y bytes maxL ret hh).before args s = true) (hy : y.cls ≠ "java/lang/invoke/MethodHandle" ∧ y.cls ≠ "java/lang/invoke/VarHandle")
    {W9 : Nat} {Pre : Pt → Array Value → Prop} {Post : Pt → Array Value → Option Value → Pt → Prop} (hK : Back l R p e below s args y 3 W9 Pre Post)
    {g : JFrame} (hg : g.method = m) (hsize : g.locals.size = c.maxLocals) {argsL rest : List Value} (hlen : ∀ sig, parseMethodDescriptor y.desc = some sig → argsL.length = sig.parameters.length)
    (hstack : g.stack = argsL.reverse ++ rest) (hW : 2 * g.monitorRoom + (rest.map fun v => v.category).sum ≤ W9) (hdg : decode c.code g.pc = .ok (.invokestatic index, 3))
    (hpre : ∀ vm₁, s.WarmedH vm₁ → Pre ⟨T.setVm vm₁, locs, cells, slots⟩ argsL.toArray) :
    ∃ (v : Option Value) (vm₁ : Vm) (B : Pt), s.WarmedH vm₁ ∧ Stand p l e R s m args below meth c B.U B.locs B.cells B.slots ∧ Post ⟨T.setVm vm₁, locs, cells, slots⟩ argsL.toArray v B ∧
      ∀ target, Steps p.tables e below (B.U.setTop { g with pc := g.pc + 3, stack := v.toList ++ rest }) target → Steps p.tables e below (T.setTop g) target := by
  obtain ⟨mk, methM, cM, hnamed, hmethM, -, -, -, -, -, -, hsigM⟩ := Cond.codeWith_spec hcode
  have hstatic : methM.isStatic = true := Cond.static_spec hnamed hmethM hstat
  obtain ⟨kP, hkP, -⟩ := className_of_methodNamed hnamed
  have hinitP : kP.init = .initialized := Cond.initialized_spec (findClass_of_methodNamed hnamed) hkP hinit
  obtain ⟨vm₁, X₁, hstep₁⟩ := X.invokestatic hexec hown hlink hnamed hmethM hstatic hkP hinitP hy (g := g) hg (argsL := argsL) (rest := rest) (hlen _ hsigM) hstack hdg
  obtain ⟨v, B, X', hpost, hsteps⟩ := hK m meth c ⟨T.setVm vm₁, locs, cells, slots⟩ { g with stack := rest } (.invokestatic index) mk argsL.toArray X₁ hg hsize hdg hW (X₁.named hnamed) (hpre vm₁ X₁.warmed)
  exact ⟨v, vm₁, B, X₁.warmed, X', hpost, fun target h => hstep₁ _ fun acts => by rw [doInvoke_state]; exact hsteps.trans h⟩
theorem vx_runSW {y : MethodName} {bytes cc : ByteArray} {maxL nL mc ms n index : Nat} {ret : Option FieldType} {hh : List (Nat × Nat × Nat × Nat)} {ws : List Cond} {rm : Room} {Pc : Array Value → State → Prop} {Qc : Array Value → State → Outcome → State → Prop} {free : Addr → Prop} {Ts : List Cond} {own : String} {As rest : List Value} {g : JFrame}
    (S : CallFix p m c cc nL s args Ts own) (hM : Met l y ws rm Pc Qc mc ms free) (cw : vx_CSW R s args own index y bytes maxL ret hh ws rm mc ms n) (hp : PreS s H Pc As)
    (hg : g.method = m) (hn : As.length = n) (hsize : g.locals.size = nL) (hstack : g.stack = As.reverse ++ rest) (hW : 2 * g.monitorRoom + (rest.map fun v => v.category).sum ≤ 8) (hdg : decode cc g.pc = .ok (.invokestatic index, 3)) (hf : cells + mc ≤ R.cells ∧ slots + ms ≤ R.slots) :
    va_Run p l e R s m args below meth c H locs cells slots mc ms g rest (Qc As.toArray) (free) := by
  obtain ⟨⟨hrc, hrs, hfr, hlo, hws, hcw⟩, hcode, hini, hy, hlen, hl, hstt⟩ := cw
  have hK : Back l R p e below s args y 3 8 (PreOf R mc ms Pc) (PostOf Qc mc ms free) := va_backW (hh := hh) (bytes := bytes) (maxL := maxL) (ret := ret) hM hp.1 hrc hrs hfr hlo hws hcw (fun a' U hW => word_at hW (Or.inl (by first | rfl | simp [Cond.onTables, Cond.keeps, Cond.steady])) hini)
  obtain ⟨hx, hb, hml, ho, -⟩ := S
  intro T hT X
  obtain ⟨v, vm₁, ⟨U', l2, c2, s2⟩, hW₁, X', ⟨g', mk, t, L, e1, e2, hq, h1, hL, h2, h3⟩, st⟩ := vx_callSW X hx (hh := hh) (bytes := bytes) (maxL := maxL) (ret := ret) ho hl hstt hini hcode hy hK hg (hsize.trans hml.symm) (argsL := As) (rest := rest) (fun sig h => hn.trans (hlen sig h)) hstack hW (by rw [hb]; exact hdg)
    (fun vm₁ hW₁ => ⟨hf.1, hf.2, hp.2 (T.setVm vm₁) hT hW₁⟩)
  dsimp only [Pt.U, Pt.locs, Pt.cells, Pt.slots] at X' e1 e2 h1 h2 h3 st
  subst h1; subst h2; subst h3
  exact ⟨v, (T.setVm vm₁).calling g' mk As.toArray, t, U', L, hT, X', hL, e1, e2, hq, st⟩
/-- not caught here, past rows that name other classes: it goes on to the caller -/
theorem vx_outP {p : Program} {l : Launch} {e : Env} {R : Room} {s : State} {m : MethodId} {args : Array Value} {below : List Frame} {meth : Method} {c : Code} {H : Heap} {locs : List Loc} {cells slots : Nat} {free : Addr → Prop} {ls : Array Slot} {rest : List Value} {Qc : Array Value → State → Outcome → State → Prop} {XC : String → State → State → Prop}
    {pc : Nat} {own E : String} {ce : Cell} {q : Addr} {mc ms : Nat} (hown : s.vm.findClass own = some m.cls) (hlocks : meth.locks = false)
    (hpass : ∀ z ∈ c.exceptionTable.toList, covers z pc = false ∨ (z.catchType ≠ 0 ∧ ∃ nm : String, (Cond.classLink own z.catchType nm).before args s = true ∧ va_Nc E nm s)) (hcell : H[q]? = some ce) (hv : ce.vm = .none) (hcl : s.vm.findClass E = some ce.cls)
    (hx : ∀ t : State, t.heap = H → s.vm.Alike t.vm → XC E s t) (hf : ∀ z ∈ locs, free z.base) (hc : cells ≤ mc) (hs : slots ≤ ms) :
    vx_W p l e R s m args below meth c H locs cells slots (vx_MQ below Qc XC args s mc ms free) (F0 m pc ls rest) q := by
  intro T hT X
  have hpl : e.platform.magicAccessors = ({} : Platform).magicAccessors := by rw [X.admits.platform]
  obtain ⟨vm', hW', X', st⟩ := X.outThrough hlocks q (g := F0 m pc ls rest) rfl rfl rfl (cell := ce) (by rw [hT]; exact hcell) (by rw [hv]; rfl)
    (by obtain ⟨k9, h9, -⟩ := Vm.findClass_spec hcl; exact ⟨k9, h9⟩) (fun z hz => by
      rcases hpass z hz with h | ⟨hz0, nm, hl1, hn1⟩
      · exact Or.inl h
      · obtain ⟨c6, hc6, hcl6⟩ := Cond.classLink_spec hown hl1 e.platform hpl
        obtain ⟨a8, b8, h1, h2, h3⟩ := hn1
        cases Option.some.inj (h1.symm.trans hcl)
        cases Option.some.inj (h2.symm.trans hc6)
        exact Or.inr ⟨hz0, _, hcl6, h3⟩)
  obtain ⟨g₀, hfr⟩ := X'.frames_eq
  have hcell9 : ((T.setVm vm').setFrames (.throwing q :: below)).heap[q]? = some ce := by
    show T.heap[q]? = some ce
    rw [hT]; exact hcell
  have hend : Ended ((T.setVm vm').setFrames (.throwing q :: below)) below (.threw q) := State.frames_setFrames _ (State.cur_lt_of_frames hfr)
  refine ⟨(T.setVm vm').setFrames (.throwing q :: below), ?_, .threw q, X'.here.running, hend, Or.inr ⟨q, rfl, E, ce, locs, hx _ hT (X'.ends _).1.alike, hcell9, hv, hcl, (X'.ends _).1, (X'.ends _).2.mono hc hs, hf⟩⟩
  rw [X.pushThrowing_eq]
  exact st
/-- a thing of a world lies in the heap -/
theorem vx_lt {D : va_G} {cl : List vw_C} {ws : va_W} {H1 : Heap} (h : va_P D cl ws H1) {k : Nat} {q : Nat × va_E} (hk : ws[k]? = some q) : q.1 < H1.size := (h k q hk).lt
end VXS
/-! ===== END ===== -/
/-! ===== BEGIN methods with a table of their own: called by a name, returning or throwing ===== -/
section VXH
/-! vx_backW, vx_callVX, vx_callSX, vx_callVW, vx_runVW, vx_runVX, vx_runSX, vx_ofWH follow the same proofs as their sisters above (Free/Laws.lean, Shelf42/LK1.lean); vx_outP calls Shelf42/NT130.lean (outThrough). -/
section
variable {l : Launch} {R : Room} {p : Program} {e : Env} {below : List Frame} {s : State} {sargs : Array Value} {y : MethodName} {len W9 : Nat}
theorem vx_backW {ws : List Cond} {rm : Room} {Pc : Array Value → State → Prop} {Qc : Array Value → State → Outcome → State → Prop} {XC : String → State → State → Prop} {mc ms : Nat} {free : Addr → Prop} {bytes : ByteArray} {maxL : Nat} {ret : Option FieldType} {hh : List (Nat × Nat × Nat × Nat)}
    (hM : vx_Met l y ws rm Pc Qc XC mc ms free) (hblind : FrameBlind Pc) (hrc : rm.cells = mc) (hrs : rm.slots = ms)
    (hframes : rm.frames + 1 ≤ R.frames) (hlocals : W9 + (maxL + 11) + rm.locals ≤ R.locals)
    (hws : ∀ w ∈ ws, ∀ a' U, s.WarmedH U.vm → w.before a' U = true) (hcode : Cond.codeWith y bytes maxL ret hh ∈ ws) (hinit : ∀ a' U, s.WarmedH U.vm → (Cond.initialized y.cls).before a' U = true) :
    vx_Back l R p e below s sargs y len W9 (PreOf R mc ms Pc) (PostOf Qc mc ms free) (vx_Post XC mc ms free) := by
  intro m meth c A g ig mk a X hg hsize hdg hW hn hp
  have h1 : (headSpec ws rm).pre.before a A.U = true := atoms_intro fun w hw => hws w hw _ _ X.warmed
  have h2 : (Cond.codeWith y bytes maxL ret hh).before a A.U = true := hws _ hcode _ _ X.warmed
  have h3 : (Cond.initialized y.cls).before a A.U = true := hinit _ _ X.warmed
  have h4 : A.cells + (headSpec ws rm).room.cells ≤ R.cells := by rw [show (headSpec ws rm).room.cells = mc from hrc]; exact hp.1
  have h5 : A.slots + (headSpec ws rm).room.slots ≤ R.slots := by rw [show (headSpec ws rm).room.slots = ms from hrs]; exact hp.2.1
  have hPc : Pc a (A.U.calling g mk a) := hblind _ _ _ _ hp.2.2
  obtain ⟨U, Ls, c0, s0⟩ := A
  dsimp only [Pt.U, Pt.locs, Pt.cells, Pt.slots] at h1 h2 h3 h4 h5 X hn hPc ⊢
  obtain ⟨m9, methY, cY, hn9, hmY, hcY, -, hlY, -⟩ := Cond.codeWith_spec h2
  cases Option.some.inj (hn9.symm.trans hn)
  obtain ⟨kY, hkY, -⟩ := className_of_methodNamed hn
  have hinitY : kY.init = .initialized := Cond.initialized_spec (findClass_of_methodNamed hn) hkY h3
  have h : At U g.method c below := by rw [hg]; exact X.here
  have hlocals9 : W9 + (maxL + 11) + (headSpec ws rm).room.locals ≤ R.locals := hlocals
  have happ : (headSpec ws rm).appliesLoose y e.platform (U.calling g mk a) = true :=
    Spec.appliesLoose_calling (g := g) h hdg hn hkY hinitY
      (X.room_calling (g := g) (R' := (headSpec ws rm).room) hsize hmY hcY hframes (by rw [hlY]; omega) h4 h5) h1
  obtain ⟨mid, hmid⟩ := h.above
  have hfr : (U.setTop g).frames = (.java g :: mid) ++ below := by rw [State.frames_setTop' g h.top, hmid]; rfl
  obtain ⟨o, s₂, hsteps, -, hend, hq⟩ := Steps.callFree hM p X.admits X.cas X.clock (acts := []) hfr happ hPc trivial
  have hq' : vx_Q Qc XC mc ms free a (U.calling g mk a) o s₂ := hq
  rw [State.frames_setTop' g h.top] at hend
  obtain ⟨g₀, hg0⟩ := Option.isSome_iff_exists.mp h.top
  obtain ⟨r, hr⟩ := State.topJava?_eq_some.mp hg0
  have hr' : (({ U with heap := s₂.heap, slotsUsed := s₂.slotsUsed } : State).setVm s₂.vm).frames = .java g₀ :: r := hr
  rcases hq' with ⟨hqc, L, hfe, hL⟩ | ⟨q, rfl, E, ce, L, hx, hce, hcv, hcl, hW₂, hsm, hL⟩
  · obtain ⟨⟨v, rfl⟩, hW₂, e2, q2, q3, q4, q5, q6⟩ := id hfe
    have e3 : s₂ = ({ (U.calling g mk a).setFrames s₂.frames with heap := s₂.heap, slotsUsed := s₂.slotsUsed } : State).setVm s₂.vm := by
      have : s₂ = ({ s₂ with vm := (U.calling g mk a).vm } : State).setVm s₂.vm := rfl
      rw [e2] at this
      exact this
    obtain ⟨c₂, i₂, len₂, hc₂, hd₂, hf₂⟩ := hend
    have hW' : U.WarmedH s₂.vm := hW₂
    have hcc : c₂ = c := by
      have h1 : s₂.code? g.method = U.code? g.method := by
        rw [State.code?_eq, State.code?_eq, hW'.alike.method?]
      exact Option.some.inj (hc₂.symm.trans (h1.trans h.code))
    subst hcc
    have hlen : len₂ = len := by rw [hdg] at hd₂; cases hd₂; rfl
    subst hlen
    have hs₂ : s₂ = (({ U with heap := s₂.heap, slotsUsed := s₂.slotsUsed } : State).setVm s₂.vm).setTop { g with pc := g.pc + len₂, stack := v.toList ++ g.stack } := by
      refine e3.trans ?_
      rw [hf₂, State.calling_eq h.top, State.setFrames_setFrames, State.setTop_of_frames _ hr', hr]
      rfl
    have hsame : U.sameButNew ({ U with heap := s₂.heap, slotsUsed := s₂.slotsUsed } : State) L mc ms := by
      refine ⟨?_, q2, q3, q4, q5, q6⟩
      obtain ⟨t, ht, -⟩ := State.frames_cons hr
      show ({ U with heap := s₂.heap, slotsUsed := s₂.slotsUsed } : State) = { U.setFrames U.frames with heap := s₂.heap, slotsUsed := s₂.slotsUsed }
      rw [State.setFrames_self ht]
    subst hg
    refine Or.inl ⟨v, ⟨(({ U with heap := s₂.heap, slotsUsed := s₂.slotsUsed } : State).setVm s₂.vm), Ls ++ L, c0 + mc, s0 + ms⟩,
      ⟨X.admits, X.cas, X.clock, X.frames, X.room, X.hears, X.method, X.code, (X.here.setHeapUsed s₂.heap s₂.slotsUsed).setVm hW'.alike, X.tail, State.WarmedH.trans X.warmed hW', X.limits, X.bytes, X.same.trans (hsame.setVm s.vm)⟩,
      ⟨g, mk, s₂, L, rfl, rfl, hqc, rfl, hL, rfl, rfl⟩, ?_⟩
    show Steps p.tables e below _ ((({ U with heap := s₂.heap, slotsUsed := s₂.slotsUsed } : State).setVm s₂.vm).setTop { g with pc := g.pc + len₂, stack := v.toList ++ g.stack })
    rw [← hs₂]
    exact hsteps
  · obtain ⟨e2, q2, q3, q4, q5, q6⟩ := id hsm
    have e3 : s₂ = ({ (U.calling g mk a).setFrames s₂.frames with heap := s₂.heap, slotsUsed := s₂.slotsUsed } : State).setVm s₂.vm := by
      have : s₂ = ({ s₂ with vm := (U.calling g mk a).vm } : State).setVm s₂.vm := rfl
      rw [e2] at this
      exact this
    have hf₂ : s₂.frames = .throwing q :: .java g :: U.frames.tail := hend
    have hW' : U.WarmedH s₂.vm := hW₂
    have hs₂ : s₂ = ((({ U with heap := s₂.heap, slotsUsed := s₂.slotsUsed } : State).setVm s₂.vm).setTop g).pushFrame (.throwing q) := by
      refine e3.trans ?_
      rw [hf₂, State.calling_eq h.top, State.setFrames_setFrames, State.pushFrame, State.frames_setTop _ hr', State.setTop_of_frames _ hr', State.setFrames_setFrames, hr]
      rfl
    have hsame : U.sameButNew ({ U with heap := s₂.heap, slotsUsed := s₂.slotsUsed } : State) L mc ms := by
      refine ⟨?_, q2, q3, q4, q5, q6⟩
      obtain ⟨t, ht, -⟩ := State.frames_cons hr
      show ({ U with heap := s₂.heap, slotsUsed := s₂.slotsUsed } : State) = { U.setFrames U.frames with heap := s₂.heap, slotsUsed := s₂.slotsUsed }
      rw [State.setFrames_self ht]
    subst hg
    refine Or.inr ⟨q, ⟨(({ U with heap := s₂.heap, slotsUsed := s₂.slotsUsed } : State).setVm s₂.vm), Ls ++ L, c0 + mc, s0 + ms⟩,
      ⟨X.admits, X.cas, X.clock, X.frames, X.room, X.hears, X.method, X.code, (X.here.setHeapUsed s₂.heap s₂.slotsUsed).setVm hW'.alike, X.tail, State.WarmedH.trans X.warmed hW', X.limits, X.bytes, X.same.trans (hsame.setVm s.vm)⟩,
      ⟨g, mk, s₂, L, E, ce, rfl, rfl, hx, hce, hcv, hcl, rfl, hL, rfl, rfl⟩, ?_⟩
    show Steps p.tables e below _ (((({ U with heap := s₂.heap, slotsUsed := s₂.slotsUsed } : State).setVm s₂.vm).setTop g).pushFrame (.throwing q))
    rw [← hs₂]
    exact hsteps
end
variable {p : Program} {l : Launch} {e : Env} {R : Room} {s : State} {m : MethodId} {args : Array Value} {below : List Frame} {meth : Method} {c : Code} {T : State} {H : Heap} {locs : List Loc} {cells slots : Nat}
theorem vx_callVX (X : Stand p l e R s m args below meth c T locs cells slots) (hexec : p.tables.exec = Jvm.exec) {own C : String} {index : Nat} {y : MethodName} {bytes : ByteArray} {maxL : Nat} {ret : Option FieldType} {hh : List (Nat × Nat × Nat × Nat)}
    (hown : s.vm.findClass own = some m.cls) (hlink : (Cond.methodLink own index y).before args s = true) (hinst : (Cond.instanceMethod y).before args s = true) (hsel : (Cond.selects C y y).before args s = true)
    (hcode : (Cond.codeWith y bytes maxL ret hh).before args s = true) (hy : y.cls ≠ "java/lang/invoke/MethodHandle" ∧ y.cls ≠ "java/lang/invoke/VarHandle")
    {W9 : Nat} {Pre : Pt → Array Value → Prop} {Post : Pt → Array Value → Option Value → Pt → Prop} {PostX : Pt → Array Value → Addr → Pt → Prop} (hK : vx_Back l R p e below s args y 3 W9 Pre Post PostX)
    {b : Addr} {cellB : Cell} (hcell : T.heap[b]? = some cellB) (hobj : cellB.vm.isStatics = false) (hcls : s.vm.findClass C = some cellB.cls)
    {g : JFrame} (hg : g.method = m) (hsize : g.locals.size = c.maxLocals) {argsL rest : List Value} (hlen : ∀ sig, parseMethodDescriptor y.desc = some sig → argsL.length = sig.parameters.length)
    (hstack : g.stack = argsL.reverse ++ .ref b :: rest) (hW : 2 * g.monitorRoom + (rest.map fun v => v.category).sum ≤ W9) (hdg : decode c.code g.pc = .ok (.invokevirtual index, 3))
    (hpre : ∀ vm₁, s.WarmedH vm₁ → Pre ⟨T.setVm vm₁, locs, cells, slots⟩ (Value.ref b :: argsL).toArray) :
    (∃ (v : Option Value) (vm₁ : Vm) (B : Pt), s.WarmedH vm₁ ∧ Stand p l e R s m args below meth c B.U B.locs B.cells B.slots ∧ Post ⟨T.setVm vm₁, locs, cells, slots⟩ (Value.ref b :: argsL).toArray v B ∧
      ∀ target, Steps p.tables e below (B.U.setTop { g with pc := g.pc + 3, stack := v.toList ++ rest }) target → Steps p.tables e below (T.setTop g) target) ∨
    (∃ (q : Addr) (vm₁ : Vm) (B : Pt), s.WarmedH vm₁ ∧ Stand p l e R s m args below meth c B.U B.locs B.cells B.slots ∧ PostX ⟨T.setVm vm₁, locs, cells, slots⟩ (Value.ref b :: argsL).toArray q B ∧
      Steps p.tables e below (T.setTop g) ((B.U.setTop { g with stack := rest }).pushFrame (.throwing q))) := by
  obtain ⟨mk, methM, hnamed, hmethM, hstM, habM⟩ := Cond.instanceMethod_spec hinst
  obtain ⟨m8, methM', cM, hn8, hmethM', -, -, -, -, -, -, hsigM⟩ := Cond.codeWith_spec hcode
  cases Option.some.inj (hn8.symm.trans hnamed)
  cases hmethM.symm.trans hmethM'
  obtain ⟨c2, r2, m2, q1, q2, q3, q4, kP, hkP, hkPi⟩ := Cond.selects_spec hsel
  cases hcls.symm.trans q1
  cases (State.methodFound?_of_named hnamed hy).symm.trans q2
  cases hnamed.symm.trans q3
  have hselP : selectMethod e.platform s.vm cellB.cls mk = .method mk := by rw [Launch.admits_selectMethod X.admits]; exact q4
  obtain ⟨vm₁, X₁, hstep₁⟩ := X.invokevirtual hexec hown hlink hnamed hmethM hstM hkP hkPi hy (a := b) (cell := cellB) hcell
    (fun z h => by rw [h] at hobj; cases hobj) hselP hmethM habM hkP hkPi (g := g) hg (argsL := argsL) (rest := rest) (hlen _ hsigM) hstack hdg
  rcases hK m meth c ⟨T.setVm vm₁, locs, cells, slots⟩ { g with stack := rest } (.invokevirtual index) mk (Value.ref b :: argsL).toArray X₁ hg hsize hdg hW (X₁.named hnamed) (hpre vm₁ X₁.warmed) with ⟨v, B, X', hpost, hsteps⟩ | ⟨q, B, X', hpost, hsteps⟩
  · exact Or.inl ⟨v, vm₁, B, X₁.warmed, X', hpost, fun target h => hstep₁ _ fun acts => by rw [doInvoke_state]; exact hsteps.trans h⟩
  · exact Or.inr ⟨q, vm₁, B, X₁.warmed, X', hpost, hstep₁ _ fun acts => by rw [doInvoke_state]; exact hsteps⟩
theorem vx_callSX (X : Stand p l e R s m args below meth c T locs cells slots) (hexec : p.tables.exec = Jvm.exec) {own : String} {index : Nat} {y : MethodName} {bytes : ByteArray} {maxL : Nat} {ret : Option FieldType} {hh : List (Nat × Nat × Nat × Nat)}
    (hown : s.vm.findClass own = some m.cls) (hlink : (Cond.methodLink own index y).before args s = true) (hstat : (Cond.static y).before args s = true) (hinit : (Cond.initialized y.cls).before args s = true)
    (hcode : (Cond.codeWith y bytes maxL ret hh).before args s = true) (hy : y.cls ≠ "java/lang/invoke/MethodHandle" ∧ y.cls ≠ "java/lang/invoke/VarHandle")
    {W9 : Nat} {Pre : Pt → Array Value → Prop} {Post : Pt → Array Value → Option Value → Pt → Prop} {PostX : Pt → Array Value → Addr → Pt → Prop} (hK : vx_Back l R p e below s args y 3 W9 Pre Post PostX)
    {g : JFrame} (hg : g.method = m) (hsize : g.locals.size = c.maxLocals) {argsL rest : List Value} (hlen : ∀ sig, parseMethodDescriptor y.desc = some sig → argsL.length = sig.parameters.length)
    (hstack : g.stack = argsL.reverse ++ rest) (hW : 2 * g.monitorRoom + (rest.map fun v => v.category).sum ≤ W9) (hdg : decode c.code g.pc = .ok (.invokestatic index, 3))
    (hpre : ∀ vm₁, s.WarmedH vm₁ → Pre ⟨T.setVm vm₁, locs, cells, slots⟩ argsL.toArray) :
    (∃ (v : Option Value) (vm₁ : Vm) (B : Pt), s.WarmedH vm₁ ∧ Stand p l e R s m args below meth c B.U B.locs B.cells B.slots ∧ Post ⟨T.setVm vm₁, locs, cells, slots⟩ argsL.toArray v B ∧
      ∀ target, Steps p.tables e below (B.U.setTop { g with pc := g.pc + 3, stack := v.toList ++ rest }) target → Steps p.tables e below (T.setTop g) target) ∨
    (∃ (q : Addr) (vm₁ : Vm) (B : Pt), s.WarmedH vm₁ ∧ Stand p l e R s m args below meth c B.U B.locs B.cells B.slots ∧ PostX ⟨T.setVm vm₁, locs, cells, slots⟩ argsL.toArray q B ∧
      Steps p.tables e below (T.setTop g) ((B.U.setTop { g with stack := rest }).pushFrame (.throwing q))) := by
  obtain ⟨mk, methM, cM, hnamed, hmethM, -, -, -, -, -, -, hsigM⟩ := Cond.codeWith_spec hcode
  have hstatic : methM.isStatic = true := Cond.static_spec hnamed hmethM hstat
  obtain ⟨kP, hkP, -⟩ := className_of_methodNamed hnamed
  have hinitP : kP.init = .initialized := Cond.initialized_spec (findClass_of_methodNamed hnamed) hkP hinit
  obtain ⟨vm₁, X₁, hstep₁⟩ := X.invokestatic hexec hown hlink hnamed hmethM hstatic hkP hinitP hy (g := g) hg (argsL := argsL) (rest := rest) (hlen _ hsigM) hstack hdg
  rcases hK m meth c ⟨T.setVm vm₁, locs, cells, slots⟩ { g with stack := rest } (.invokestatic index) mk argsL.toArray X₁ hg hsize hdg hW (X₁.named hnamed) (hpre vm₁ X₁.warmed) with ⟨v, B, X', hpost, hsteps⟩ | ⟨q, B, X', hpost, hsteps⟩
  · exact Or.inl ⟨v, vm₁, B, X₁.warmed, X', hpost, fun target h => hstep₁ _ fun acts => by rw [doInvoke_state]; exact hsteps.trans h⟩
  · exact Or.inr ⟨q, vm₁, B, X₁.warmed, X', hpost, hstep₁ _ fun acts => by rw [doInvoke_state]; exact hsteps⟩
theorem vx_callVW (X : Stand p l e R s m args below meth c T locs cells slots) (hexec : p.tables.exec = Jvm.exec) {own C : String} {index : Nat} {y : MethodName} {bytes : ByteArray} {maxL : Nat} {ret : Option FieldType} {hh : List (Nat × Nat × Nat × Nat)}
    (hown : s.vm.findClass own = some m.cls) (hlink : (Cond.methodLink own index y).before args s = true) (hinst : (Cond.instanceMethod y).before args s = true) (hsel : (Cond.selects C y y).before args s = true)
    (hcode : (Cond.codeWith y bytes maxL ret hh).before args s = true) (hy : y.cls ≠ "java/lang/invoke/MethodHandle" ∧ y.cls ≠ "java/lang/invoke/VarHandle")
    {W9 : Nat} {Pre : Pt → Array Value → Prop} {Post : Pt → Array Value → Option Value → Pt → Prop} (hK : Back l R p e below s args y 3 W9 Pre Post)
    {b : Addr} {cellB : Cell} (hcell : T.heap[b]? = some cellB) (hobj : cellB.vm.isStatics = false) (hcls : s.vm.findClass C = some cellB.cls)
    {g : JFrame} (hg : g.method = m) (hsize : g.locals.size = c.maxLocals) {argsL rest : List Value} (hlen : ∀ sig, parseMethodDescriptor y.desc = some sig → argsL.length = sig.parameters.length)
    (hstack : g.stack = argsL.reverse ++ .ref b :: rest) (hW : 2 * g.monitorRoom + (rest.map fun v => v.category).sum ≤ W9) (hdg : decode c.code g.pc = .ok (.invokevirtual index, 3))
    (hpre : ∀ vm₁, s.WarmedH vm₁ → Pre ⟨T.setVm vm₁, locs, cells, slots⟩ (Value.ref b :: argsL).toArray) :
    ∃ (v : Option Value) (vm₁ : Vm) (B : Pt), s.WarmedH vm₁ ∧ Stand p l e R s m args below meth c B.U B.locs B.cells B.slots ∧ Post ⟨T.setVm vm₁, locs, cells, slots⟩ (Value.ref b :: argsL).toArray v B ∧
      ∀ target, Steps p.tables e below (B.U.setTop { g with pc := g.pc + 3, stack := v.toList ++ rest }) target → Steps p.tables e below (T.setTop g) target := by
  obtain ⟨mk, methM, hnamed, hmethM, hstM, habM⟩ := Cond.instanceMethod_spec hinst
  obtain ⟨m8, methM', cM, hn8, hmethM', -, -, -, -, -, -, hsigM⟩ := Cond.codeWith_spec hcode
  cases Option.some.inj (hn8.symm.trans hnamed)
  cases hmethM.symm.trans hmethM'
  obtain ⟨c2, r2, m2, q1, q2, q3, q4, kP, hkP, hkPi⟩ := Cond.selects_spec hsel
  cases hcls.symm.trans q1
  cases (State.methodFound?_of_named hnamed hy).symm.trans q2
  cases hnamed.symm.trans q3
  have hselP : selectMethod e.platform s.vm cellB.cls mk = .method mk := by rw [Launch.admits_selectMethod X.admits]; exact q4
  obtain ⟨vm₁, X₁, hstep₁⟩ := X.invokevirtual hexec hown hlink hnamed hmethM hstM hkP hkPi hy (a := b) (cell := cellB) hcell
    (fun z h => by rw [h] at hobj; cases hobj) hselP hmethM habM hkP hkPi (g := g) hg (argsL := argsL) (rest := rest) (hlen _ hsigM) hstack hdg
  obtain ⟨v, B, X', hpost, hsteps⟩ := hK m meth c ⟨T.setVm vm₁, locs, cells, slots⟩ { g with stack := rest } (.invokevirtual index) mk (Value.ref b :: argsL).toArray X₁ hg hsize hdg hW (X₁.named hnamed) (hpre vm₁ X₁.warmed)
  exact ⟨v, vm₁, B, X₁.warmed, X', hpost, fun target h => hstep₁ _ fun acts => by rw [doInvoke_state]; exact hsteps.trans h⟩
abbrev vx_CVW (R : Room) (s : State) (args : Array Value) (own C : String) (index : Nat) (y : MethodName) (bytes : ByteArray) (maxL : Nat) (ret : Option FieldType) (hh : List (Nat × Nat × Nat × Nat)) (ws : List Cond) (rm : Room) (mc ms n : Nat) : Prop :=
  (rm.cells = mc ∧ rm.slots = ms ∧ rm.frames + 1 ≤ R.frames ∧ 8 + (maxL + 11) + rm.locals ≤ R.locals ∧ (∀ w ∈ ws, ∀ (a' : Array Value) (U : State), s.WarmedH U.vm → w.before a' U = true) ∧ Cond.codeWith y bytes maxL ret hh ∈ ws) ∧
  (Cond.codeWith y bytes maxL ret hh).before args s = true ∧ (Cond.initialized y.cls).before args s = true ∧ (y.cls ≠ "java/lang/invoke/MethodHandle" ∧ y.cls ≠ "java/lang/invoke/VarHandle") ∧
  (∀ sig, parseMethodDescriptor y.desc = some sig → n = sig.parameters.length) ∧ (Cond.methodLink own index y).before args s = true ∧ (Cond.instanceMethod y).before args s = true ∧ (Cond.selects C y y).before args s = true
theorem vx_cwVW {own C : String} {index maxL mc ms : Nat} {y : MethodName} {bytes : ByteArray} {ret : Option FieldType} {hh : List (Nat × Nat × Nat × Nat)} {Ts ws ws' : List Cond} {rm : Room} (n : Nat) (ht : ∀ w ∈ Ts, w.before args s = true) (hT : GoodIn Ts (wsV own index C y ws)) (hw : ws = Cond.codeWith y bytes maxL ret hh :: ws') (hrc : rm.cells = mc) (hrs : rm.slots = ms)
    (hd : y.cls = C ∧ y.cls ≠ "java/lang/invoke/MethodHandle" ∧ y.cls ≠ "java/lang/invoke/VarHandle" ∧ (parseMethodDescriptor y.desc).map (fun d => d.parameters.length) = some n) (hR : rm.frames + 1 ≤ R.frames ∧ 8 + (maxL + 11) + rm.locals ≤ R.locals) :
    vx_CVW R s args own C index y bytes maxL ret hh ws rm mc ms n := by
  obtain ⟨hC, hd⟩ := hd
  subst hC
  have ok : ∀ w ∈ wsV own index y.cls y ws, w.before args s = true := fun w h => ht w (hT w h).1
  have hG : GoodIn Ts ws := fun w h => hT w (by unfold wsV; exact List.mem_append_right _ h)
  have hc : Cond.codeWith y bytes maxL ret hh ∈ ws := by rw [hw]; exact List.mem_cons_self
  refine ⟨⟨hrc, hrs, hR.1, hR.2, pay_in ht hG, hc⟩, ht _ (hG _ hc).1, ok _ (by simp [wsV]), ⟨hd.1, hd.2.1⟩, fun sig h => ?_, ok _ (by simp [wsV]), ok _ (by simp [wsV]), ok _ (by simp [wsV])⟩
  have h2 := hd.2.2
  rw [h] at h2
  exact (Option.some.inj h2).symm
theorem vx_runVW {y : MethodName} {bytes cc : ByteArray} {maxL nL mc ms n index : Nat} {ret : Option FieldType} {hh : List (Nat × Nat × Nat × Nat)} {ws : List Cond} {rm : Room} {Pc : Array Value → State → Prop} {Qc : Array Value → State → Outcome → State → Prop} {free : Addr → Prop} {Ts : List Cond} {own C : String} {b : Addr} {As rest : List Value} {g : JFrame}
    (S : CallFix p m c cc nL s args Ts own) (hM : Met l y ws rm Pc Qc mc ms free) (cw : vx_CVW R s args own C index y bytes maxL ret hh ws rm mc ms n) (hp : PreV s H C b Pc As)
    (hg : g.method = m) (hn : As.length = n) (hsize : g.locals.size = nL) (hstack : g.stack = As.reverse ++ .ref b :: rest) (hW : 2 * g.monitorRoom + (rest.map fun v => v.category).sum ≤ 8) (hdg : decode cc g.pc = .ok (.invokevirtual index, 3)) (hf : cells + mc ≤ R.cells ∧ slots + ms ≤ R.slots) :
    va_Run p l e R s m args below meth c H locs cells slots mc ms g rest (Qc (Value.ref b :: As).toArray) free := by
  obtain ⟨⟨hrc, hrs, hfr, hlo, hws, hcw⟩, hcode, hini, hy, hlen, hl, hin, hse⟩ := cw
  have hK : Back l R p e below s args y 3 8 (PreOf R mc ms Pc) (PostOf Qc mc ms free) := va_backW (hh := hh) (bytes := bytes) (maxL := maxL) (ret := ret) hM hp.1 hrc hrs hfr hlo hws hcw (fun a' U hW => word_at hW (Or.inl (by first | rfl | simp [Cond.onTables, Cond.keeps, Cond.steady])) hini)
  obtain ⟨hx, hb, hml, ho, -⟩ := S
  obtain ⟨-, ⟨cellB, hcB, hoB, hclB⟩, hPc⟩ := hp
  intro T hT X
  obtain ⟨v, vm₁, ⟨U', l2, c2, s2⟩, hW₁, X', ⟨g', mk, t, L, e1, e2, hq, h1, hL, h2, h3⟩, st⟩ := vx_callVW X hx (C := C) (hh := hh) (bytes := bytes) (maxL := maxL) (ret := ret) ho hl hin hse hcode hy hK (by rw [hT]; exact hcB) hoB hclB hg (hsize.trans hml.symm) (argsL := As) (rest := rest) (fun sig h => hn.trans (hlen sig h)) hstack hW (by rw [hb]; exact hdg)
    (fun vm₁ hW₁ => ⟨hf.1, hf.2, hPc (T.setVm vm₁) hT hW₁⟩)
  dsimp only [Pt.U, Pt.locs, Pt.cells, Pt.slots] at X' e1 e2 h1 h2 h3 st
  subst h1; subst h2; subst h3
  exact ⟨v, (T.setVm vm₁).calling g' mk (Value.ref b :: As).toArray, t, U', L, hT, X', hL, e1, e2, hq, st⟩
section
variable {y : MethodName} {bytes cc : ByteArray} {maxL nL mc ms n index : Nat} {ret : Option FieldType} {ws : List Cond} {rm : Room} {Pc : Array Value → State → Prop} {Qc : Array Value → State → Outcome → State → Prop} {XC : String → State → State → Prop} {free : Addr → Prop} {Ts : List Cond} {own C : String} {b : Addr} {As rest : List Value} {g : JFrame}
theorem vx_runVX {hh : List (Nat × Nat × Nat × Nat)} (S : CallFix p m c cc nL s args Ts own) (hM : vx_Met l y ws rm Pc Qc XC mc ms free) (cw : vx_CVW R s args own C index y bytes maxL ret hh ws rm mc ms n) (hp : PreV s H C b Pc As)
    (hg : g.method = m) (hn : As.length = n) (hsize : g.locals.size = nL) (hstack : g.stack = As.reverse ++ .ref b :: rest) (hW : 2 * g.monitorRoom + (rest.map fun v => v.category).sum ≤ 8) (hdg : decode cc g.pc = .ok (.invokevirtual index, 3)) (hf : cells + mc ≤ R.cells ∧ slots + ms ≤ R.slots) :
    vx_Run p l e R s m args below meth c H locs cells slots mc ms g rest (Qc (Value.ref b :: As).toArray) XC free := by
  obtain ⟨⟨hrc, hrs, hfr, hlo, hws, hcw⟩, hcode, hini, hy, hlen, hl, hin, hse⟩ := cw
  have hK : vx_Back l R p e below s args y 3 8 (PreOf R mc ms Pc) (PostOf Qc mc ms free) (vx_Post XC mc ms free) := vx_backW (hh := hh) (bytes := bytes) (maxL := maxL) (ret := ret) hM hp.1 hrc hrs hfr hlo hws hcw (fun a' U hW => word_at hW (Or.inl (by first | rfl | simp [Cond.onTables, Cond.keeps, Cond.steady])) hini)
  obtain ⟨hx, hb, hml, ho, -⟩ := S
  obtain ⟨-, ⟨cellB, hcB, hoB, hclB⟩, hPc⟩ := hp
  intro T hT X
  rcases vx_callVX X hx (C := C) (hh := hh) (bytes := bytes) (maxL := maxL) (ret := ret) ho hl hin hse hcode hy hK (by rw [hT]; exact hcB) hoB hclB hg (hsize.trans hml.symm) (argsL := As) (rest := rest) (fun sig h => hn.trans (hlen sig h)) hstack hW (by rw [hb]; exact hdg)
    (fun vm₁ hW₁ => ⟨hf.1, hf.2, hPc (T.setVm vm₁) hT hW₁⟩) with ⟨v, vm₁, ⟨U', l2, c2, s2⟩, hW₁, X', ⟨g', mk, t, L, e1, e2, hq, h1, hL, h2, h3⟩, st⟩ | ⟨q, vm₁, ⟨U', l2, c2, s2⟩, hW₁, X', ⟨g', mk, t, L, E, ce, e1, e2, hq, hce, hcv, hcl, h1, hL, h2, h3⟩, st⟩
  · dsimp only [Pt.U, Pt.locs, Pt.cells, Pt.slots] at X' e1 e2 h1 h2 h3 st
    subst h1; subst h2; subst h3
    exact Or.inl ⟨v, (T.setVm vm₁).calling g' mk (Value.ref b :: As).toArray, t, U', L, hT, X', hL, e1, e2, hq, st⟩
  · dsimp only [Pt.U, Pt.locs, Pt.cells, Pt.slots] at X' e1 e2 h1 h2 h3 st hcl
    subst h1; subst h2; subst h3
    exact Or.inr ⟨q, (T.setVm vm₁).calling g' mk (Value.ref b :: As).toArray, t, U', L, E, ce, hT, X', hL, e1, e2, hq, hce, hcv, vx_cls hW₁ hcl, st⟩
theorem vx_runSX {hh : List (Nat × Nat × Nat × Nat)} (S : CallFix p m c cc nL s args Ts own) (hM : vx_Met l y ws rm Pc Qc XC mc ms free) (cw : vx_CSW R s args own index y bytes maxL ret hh ws rm mc ms n) (hp : PreS s H Pc As)
    (hg : g.method = m) (hn : As.length = n) (hsize : g.locals.size = nL) (hstack : g.stack = As.reverse ++ rest) (hW : 2 * g.monitorRoom + (rest.map fun v => v.category).sum ≤ 8) (hdg : decode cc g.pc = .ok (.invokestatic index, 3)) (hf : cells + mc ≤ R.cells ∧ slots + ms ≤ R.slots) :
    vx_Run p l e R s m args below meth c H locs cells slots mc ms g rest (Qc As.toArray) XC free := by
  obtain ⟨⟨hrc, hrs, hfr, hlo, hws, hcw⟩, hcode, hini, hy, hlen, hl, hstt⟩ := cw
  have hK : vx_Back l R p e below s args y 3 8 (PreOf R mc ms Pc) (PostOf Qc mc ms free) (vx_Post XC mc ms free) := vx_backW (hh := hh) (bytes := bytes) (maxL := maxL) (ret := ret) hM hp.1 hrc hrs hfr hlo hws hcw (fun a' U hW => word_at hW (Or.inl (by first | rfl | simp [Cond.onTables, Cond.keeps, Cond.steady])) hini)
  obtain ⟨hx, hb, hml, ho, -⟩ := S
  intro T hT X
  rcases vx_callSX X hx (hh := hh) (bytes := bytes) (maxL := maxL) (ret := ret) ho hl hstt hini hcode hy hK hg (hsize.trans hml.symm) (argsL := As) (rest := rest) (fun sig h => hn.trans (hlen sig h)) hstack hW (by rw [hb]; exact hdg)
    (fun vm₁ hW₁ => ⟨hf.1, hf.2, hp.2 (T.setVm vm₁) hT hW₁⟩) with ⟨v, vm₁, ⟨U', l2, c2, s2⟩, hW₁, X', ⟨g', mk, t, L, e1, e2, hq, h1, hL, h2, h3⟩, st⟩ | ⟨q, vm₁, ⟨U', l2, c2, s2⟩, hW₁, X', ⟨g', mk, t, L, E, ce, e1, e2, hq, hce, hcv, hcl, h1, hL, h2, h3⟩, st⟩
  · dsimp only [Pt.U, Pt.locs, Pt.cells, Pt.slots] at X' e1 e2 h1 h2 h3 st
    subst h1; subst h2; subst h3
    exact Or.inl ⟨v, (T.setVm vm₁).calling g' mk As.toArray, t, U', L, hT, X', hL, e1, e2, hq, st⟩
  · dsimp only [Pt.U, Pt.locs, Pt.cells, Pt.slots] at X' e1 e2 h1 h2 h3 st hcl
    subst h1; subst h2; subst h3
    exact Or.inr ⟨q, (T.setVm vm₁).calling g' mk As.toArray, t, U', L, E, ce, hT, X', hL, e1, e2, hq, hce, hcv, vx_cls hW₁ hcl, st⟩
end
end VXH
theorem vx_ofWH {l : Launch} {y : MethodName} {ws ws' : List Cond} {rm : Room} {Pc : Array Value → State → Prop} {Qc : Array Value → State → Outcome → State → Prop} {XC : String → State → State → Prop} {mc ms : Nat} {free : Addr → Prop} {cc : ByteArray} {maxL : Nat} {ret : Option FieldType} {hh : List (Nat × Nat × Nat × Nat)}
    (hy : plainName y.cls = true) (hw : ws = Cond.codeWith y cc maxL ret hh :: ws')
    (body : ∀ p e s m args below meth c s₁, BodyLoose p l y (headSpec ws rm) cc maxL ret e s m args below meth c s₁ → c.maxLocals = maxL → Pc args s →
      W p l e (headSpec ws rm).room s m args below meth c s.heap [] 0 0 (vx_MQ below Qc XC args s mc ms free) (entryFrame m args maxL)) : vx_Met l y ws rm Pc Qc XC mc ms free := by
  refine MetFree.of_bodyS (code := cc) (maxLocals := maxL) (ret := ret) hy ?_ ?_
  · intro args s m h hn
    obtain ⟨m9, meth, c, hn9, h1, h2, h3, h4, -, h5, h6, -⟩ := Cond.codeWith_spec (atoms_spec (ws := ws) h _ (by rw [hw]; exact List.mem_cons_self))
    cases hn.symm.trans hn9
    exact ⟨meth, c, h1, h2, h3, h4, h5, h6⟩
  · intro p e s m args below meth c s₁ B hml hP _
    have hh0 : s₁.heap = s.heap := by rw [B.state]; rfl
    obtain ⟨t, a1, o, b1, b2, b3⟩ := body p e s m args below meth c s₁ B hml hP s₁ hh0 (Stand.of_body B)
    exact ⟨t, o, a1, b1, b2, b3⟩
/-! ===== END ===== -/

/-! ===== BEGIN what the machine throws by itself, no traces kept ===== -/
section VXM
set_option maxHeartbeats 1000000 in
/-- the machine throws cls with the message text, no traces kept: from its note over the frame g to 'throwing' over the same frame (follows the proofs of Stand.vmThrowsMessage, Shelf/KitTracedVmS.lean, and Stand.throwsMessageColdBareV, StandMessageColdV.lean, without the step out of the frame) -/
theorem vx_vmAt {p : Program} {l : Launch} {e : Env} {R : Room} {s : State} {m₀ : MethodId} {args : Array Value} {below : List Frame} {meth : Method} {c : Code} {W : State} {locs : List Loc} {cells slots : Nat}
    (X : Stand p l e R s m₀ args below meth c W locs cells slots) (hexec : p.tables.exec = Jvm.exec) (htr : e.platform.stackTraces = false) {cls : String} {names : List String} {text : String}
    (hcls : Bundle.fit cls = true) (hnames : ∀ n ∈ names, Bundle.fit n = true) (hsoe : (cls == "java/lang/StackOverflowError") = false) (hoom : (cls == "java/lang/OutOfMemoryError") = false)
    (h : ∀ a ∈ Bundle.messageArmAtoms cls names, a.before args s = true)
    (hlocs : ∀ x ∈ locs, ∀ cell, s.heap[x.base]? = some cell → cell.vm.isStatics = false)
    (htext : (text == notModelled) = false) (hlimit : ¬ (stringBytes (stringToUtf16 text)).size > e.platform.arrayLengthLimit) (hheap : ¬ (stringBytes (stringToUtf16 text)).size * componentBytes .byte > e.platform.maxHeapBytes)
    {g : JFrame} (hg : g.method = m₀) (hsize : g.locals.size = c.maxLocals)
    (hRframes : names.length + 4 < R.frames) (hRlocals : 2 * g.monitorRoom + (g.stack.map fun v => v.category).sum + 10240 ≤ R.locals) (hshort : 13 * names.length + 55 ≤ 10240)
    (hRcells : cells + 3 ≤ R.cells) (hRslots : slots + ((stringBytes (stringToUtf16 text)).size + 4 + 6) ≤ R.slots) (hlocks : meth.locks = false) :
    ∃ (S : State) (q : Addr) (ce : Cell), (∀ target, Steps p.tables e below ((S.setTop g).pushFrame (.throwing q)) target → Steps p.tables e below ((W.setTop g).pushFrame (.throwNew cls (some text) none)) target) ∧
      Stand p l e R s m₀ args below meth c S locs (cells + 3) (slots + ((stringBytes (stringToUtf16 text)).size + 4 + 6)) ∧ S.heap[q]? = some ce ∧ s.vm.findClass cls = some ce.cls ∧ ce.vm = .none := by
  have howns : e.platform.frameOwnsMonitors = true := by rw [X.admits.platform]
  have hfin : e.platform.finalization = false := by rw [X.admits.platform]
  have hpl : e.platform.magicAccessors = ({} : Platform).magicAccessors := by rw [X.admits.platform]
  have a : ∀ x, x ∈ Bundle.messageArmAtoms cls names → x.holds args s none s [] = true := fun x hx => h x hx
  obtain ⟨T, Z0, L, -, Y⟩ := ThrowableC.of_atoms (args := args) howns hfin hpl (fun x hx => h x (by simp [Bundle.messageArmAtoms, hx]))
  obtain ⟨Z, M, LZ, LM, hnZ⟩ := Init0T.ofS_atoms (args := args) hpl L Y (fun x hx => h x (by simp [Bundle.messageArmAtoms, hx]))
  obtain ⟨P1, Ps, hlen, L1, hL, hP1m, hlink1, hlink⟩ := Bundle.chainS (args := args) hpl hnZ names cls hcls hnames (fun x hx => h x (by simp [Bundle.messageArmAtoms, hx]))
  obtain ⟨Zs, LZs, hn4, hfitv, hfitc⟩ := StringT.of_atoms (args := args) (fun x hx => h x (by simp [Bundle.messageArmAtoms, hx]))
  have hfound : s.vm.findClass cls = some P1.m.cls := findClass_of_methodNamed hP1m
  obtain ⟨c1, kX, hc1, hk, hord, -, -, hn6⟩ := Cond.instantiable_spec (a (.instantiable cls 6) (by simp [Bundle.messageArmAtoms]))
  cases Option.some.inj (hc1.symm.trans hfound)
  have hinit := Cond.initialized_spec hfound hk (a (.initialized cls) (by simp [Bundle.messageArmAtoms]))
  have hctor : kX.findMethod "<init>" "(Ljava/lang/String;)V" = some P1.m.idx := findMethod_of_methodNamed hP1m hk
  have hsel0 : selectMethod e.platform s.vm P1.m.cls T.fill0 = .method T.fill0 := by
    obtain ⟨c2, r2, m2, q1, q2, q3, q4, -⟩ := Cond.selects_spec (a (.selects cls Bundle.tFill0 Bundle.tFill0) (by simp [Bundle.messageArmAtoms]))
    cases Option.some.inj (q1.symm.trans hfound)
    cases Option.some.inj (q2.symm.trans (State.methodFound?_of_named Y.fill0 (by decide)))
    cases Option.some.inj (q3.symm.trans Y.fill0)
    rw [Launch.admits_selectMethod X.admits]; exact q4
  have hselF : selectMethod e.platform s.vm P1.m.cls T.fill = .method T.fill := by
    obtain ⟨c2, r2, m2, q1, q2, q3, q4, -⟩ := Cond.selects_spec (a (.selects cls Bundle.tFill Bundle.tFill) (by simp [Bundle.messageArmAtoms]))
    cases Option.some.inj (q1.symm.trans hfound)
    cases Option.some.inj (q2.symm.trans (State.methodFound?_of_named Y.fill (by decide)))
    cases Option.some.inj (q3.symm.trans Y.fill)
    rw [Launch.admits_selectMethod X.admits]; exact q4
  obtain ⟨cellS0, hcS0, hiss⟩ := Y.statics
  obtain ⟨u0, hu0⟩ := Cond.staticRefV Y.unassigned L.unassignedStatic L.statics hcS0 hiss (a (.isRef (.static Bundle.tN "UNASSIGNED_STACK" Bundle.steD)) (by simp [Bundle.messageArmAtoms]))
  obtain ⟨sen, hsen⟩ := Cond.staticRefV Y.sentinel L.sentinelStatic L.statics hcS0 hiss (a (.isRef (.static Bundle.tN "SUPPRESSED_SENTINEL" Bundle.listD)) (by simp [Bundle.messageArmAtoms]))
  obtain ⟨ci198, i198, fB, hk198, hg198, ha198, hsB, -, hnB, htB, hffB⟩ := Cond.ownField (t := .object "java/lang/Object") Y.found L.cls (by decide +kernel) (a (.fieldLink Bundle.tN 198 Bundle.tN "backtrace" "Ljava/lang/Object;") (by simp [Bundle.messageArmAtoms])) (a (.lays Bundle.tN Bundle.tN "backtrace" "Ljava/lang/Object;") (by simp [Bundle.messageArmAtoms])) e.platform hpl
  obtain ⟨cellS, hcS', heS, -, hkeep⟩ := X.same.2.2.2.2.2 T.aS cellS0 hcS0
  have hcellS : W.heap[T.aS]? = some cellS := hcS'
  have hout' : ∀ i, (⟨T.aS, i⟩ : Loc) ∉ locs := fun i hmem => by
    have := hlocs _ hmem cellS0 hcS0
    rw [hiss] at this; cases this
  have hknownS : cellS.vm ≠ .unknown := by
    rw [heS]; intro hu
    rw [show cellS0.vm = .unknown from hu] at hiss
    cases hiss
  have hvU : cellS.slots[T.fUnassigned.slot]? = some u0.v := by rw [hkeep _ (hout' _)]; exact hu0
  have hvSen : cellS.slots[T.fSentinel.slot]? = some sen.v := by rw [hkeep _ (hout' _)]; exact hsen
  obtain ⟨iM, hffM⟩ := Y.msg
  obtain ⟨tyC, dC, hdC, hdnC⟩ := Cond.laysAt hfound hk Y.cause (a (.lays cls Bundle.tN "cause" "Ljava/lang/Throwable;") (by simp [Bundle.messageArmAtoms]))
  obtain ⟨tyS, dS, hdS, hdnS⟩ := Cond.laysAt hfound hk Y.stack (a (.lays cls Bundle.tN "stackTrace" Bundle.steD) (by simp [Bundle.messageArmAtoms]))
  obtain ⟨tyP, dP, hdP, hdnP⟩ := Cond.laysAt hfound hk Y.supp (a (.lays cls Bundle.tN "suppressedExceptions" Bundle.listD) (by simp [Bundle.messageArmAtoms]))
  obtain ⟨tyM, dM, hdM, hdnM⟩ := Cond.laysAt hfound hk hffM (a (.lays cls Bundle.tN "detailMessage" "Ljava/lang/String;") (by simp [Bundle.messageArmAtoms]))
  obtain ⟨tyB, dB, hdB, hdnB⟩ := Cond.laysAt hfound hk hffB (a (.lays cls Bundle.tN "backtrace" "Ljava/lang/Object;") (by simp [Bundle.messageArmAtoms]))
  have bC := Cond.laysApart hdB hdC hdnB hdnC (by rw [hnB, Y.causeName]; decide)
  have bS := Cond.laysApart hdB hdS hdnB hdnS (by rw [hnB, Y.stackName]; decide)
  have bP := Cond.laysApart hdB hdP hdnB hdnP (by rw [hnB, Y.suppName]; decide)
  have hbk : ((preparedCellV T.toThrowableT (freshCell P1.m.cls kX) (W.heap.size + 2) u0 sen).withEntry W.cur).slots[fB.slot]? = some .null := by
    have := fresh_default (c := P1.m.cls) tyB
    rw [htB] at this
    simpa [preparedCellV, Cell.setSlot, Cell.withEntry, Array.getElem?_setIfInBounds, bC, bS, bP, bC.symm, bS.symm, bP.symm, defaultValue] using this
  have tkC := Takes.of_laid (v := .ref (W.heap.size + 2)) hk hord tyC (by rw [Y.causeType]; rfl)
  have tkS := Takes.of_laid (v := u0.v) hk hord tyS (by rw [Y.stackType]; exact fits_refV_array _ u0)
  have tkP := Takes.of_laid (v := sen.v) hk hord tyP (by rw [Y.suppType]; exact fits_refV_object _ sen)
  have tkM := Takes.of_laid (v := .ref (W.heap.size + 1)) hk hord tyM (by rw [Y.msgType]; rfl)
  have hskip : SkipFacts T e.platform s (fun u => u) u0 ((preparedCellV T.toThrowableT (freshCell P1.m.cls kX) (W.heap.size + 2) u0 sen).withEntry W.cur) := ⟨{ ci198 := ci198, i198 := i198, fBack := fB }, ⟨hk198, hg198, ha198, hsB⟩, hbk, fun _ _ => rfl⟩
  have h0 : At W g.method c below := by rw [hg]; exact X.here
  obtain ⟨hbeyond, hfreeW⟩ := X.vmMayThrow hsize (.throwNew cls (some text) none) (fun f hf => by cases hf) rfl hRlocals
  have hfr' : W.frames.length + Ps.length + 4 < (e.platform.stackLimits W.me).1 := by have := X.framesAbove hRframes; omega
  have hwd' : (stackUse (.java g :: W.frames.tail)).2 + 13 * Ps.length + 55 ≤ (e.platform.stackLimits W.me).2 := by have := X.stackAbove hsize (K := 13 * Ps.length + 55) (by omega); omega
  have hslots : W.slotsUsed + (stringBytes (stringToUtf16 text)).size + Zs.kS.instanceTypes.size + kX.instanceTypes.size ≤ e.platform.maxSlots := by
    have := X.slotsAbove hRslots
    rw [hn4, hn6]
    omega
  obtain ⟨vm', hW', st⟩ := Steps.vmThrowsMessageColdByV p (s₀ := s) (S := W) (g := g) h0 hexec T L Z LZ M LM X.warmed (t := W.cur) rfl Zs LZs P1 L1 Ps hL hlink1 hlink hsoe hoom hfound hk hinit hord hctor
    (Launch.admits_hotImplicitExceptions X.admits) hbeyond hfreeW htext hlimit hheap (X.cellsAbove hRcells) hslots (hfitv _) (hfitc _)
    (Nn := fun u => u) heapOnly_id (fun _ _ => rfl) (fun _ => rfl) (fun u x y => setCell_twice _ _ _ _) (fun _ => Nat.le_refl _) (cN := ((preparedCellV T.toThrowableT (freshCell P1.m.cls kX) (W.heap.size + 2) u0 sen).withEntry W.cur))
    hsel0 hcellS hknownS hvU tkS (fun _ hu => hu) (fun _ hu => hu) rfl rfl rfl (by simp [preparedCellV, Cell.setSlot, Cell.withEntry]) hskip (fun _ _ hA hW _ hroom _ hrest => L.nativeOff p htr hA hW hroom hrest) hselF hvSen tkC tkP tkM Y.objLocals rfl hfr' hwd'
  rw [plainBareV_eq T.toThrowableT (W.heap.size + 2) u0 sen (.ref (W.heap.size + 1)) W.cur rfl rfl] at st
  obtain ⟨-, -, w3, w4, -, -, -⟩ := withThrown_facts e.platform W Zs text P1.m.cls kX
  have X3 := ((X.pushed (bytesOf Zs.cB (stringToUtf16 text))).pushed (stringAt Zs.cS Zs.kS Zs.fv Zs.fc (stringToUtf16 text) W.heap.size)).pushed (freshCell P1.m.cls kX)
  rw [← withString_eq] at X3
  have X4 := X3.noted hW'
  have ha : (W.heap.size + 2) < ((withThrown W Zs text P1.m.cls kX).setVm vm').heap.size := by show _ < (withThrown W Zs text P1.m.cls kX).heap.size; rw [w3]; omega
  have hcell : ((withThrown W Zs text P1.m.cls kX).setVm vm').heap[(W.heap.size + 2)]? = some (freshCell P1.m.cls kX) := w4
  have X5 := ((((X4.stored hcell T.fCause.slot (.ref (W.heap.size + 2))).storedAgain ha T.fStack.slot u0.v).storedAgain ha T.fSupp.slot sen.v).storedAgain ha T.fStack.slot u0.v).storedAgain ha T.fMsg.slot (.ref (W.heap.size + 1))
  obtain ⟨g₁, hfrM⟩ := X5.frames_eq
  have hU : ((((withThrown W Zs text P1.m.cls kX).setVm vm').setCell (W.heap.size + 2) (plainBareV T.toThrowableT (freshCell P1.m.cls kX) (W.heap.size + 2) u0 sen (.ref (W.heap.size + 1)))).setTop g).pushFrame (.throwing (W.heap.size + 2)) = (((withThrown W Zs text P1.m.cls kX).setVm vm').setCell (W.heap.size + 2) (plainBareV T.toThrowableT (freshCell P1.m.cls kX) (W.heap.size + 2) u0 sen (.ref (W.heap.size + 1)))).setFrames (.throwing (W.heap.size + 2) :: .java g :: below) := by
    rw [State.pushFrame, State.frames_setTop _ hfrM, State.setTop_of_frames _ hfrM, State.setFrames_setFrames]
  have b1 : (bytesOf Zs.cB (stringToUtf16 text)).slots.size = (stringBytes (stringToUtf16 text)).size := by
    rw [(Cell.writeAll_facts _ _).2.2]; simp [bytes0]
  have b2 : (stringAt Zs.cS Zs.kS Zs.fv Zs.fc (stringToUtf16 text) W.heap.size).slots.size = 4 := by simp [string0, Cell.setSlot, hn4]
  have b3 : (freshCell P1.m.cls kX).slots.size = 6 := by simp [hn6]
  rw [b1, b2, b3] at X5
  have e9 : slots + (stringBytes (stringToUtf16 text)).size + 4 + 6 = slots + ((stringBytes (stringToUtf16 text)).size + 4 + 6) := by omega
  rw [e9] at X5
  simp only [List.append_assoc, List.cons_append, List.nil_append] at X5
  refine ⟨((withThrown W Zs text P1.m.cls kX).setVm vm').setCell (W.heap.size + 2) (plainBareV T.toThrowableT (freshCell P1.m.cls kX) (W.heap.size + 2) u0 sen (.ref (W.heap.size + 1))), W.heap.size + 2, _, fun target ht => st _ (by rw [X.tail, ← hU]; exact ht),
    X5.forget (fun y hy => ?_), heapAt_setCell_self _ ha, hfound, rfl⟩
  simp only [List.mem_cons, List.not_mem_nil, or_false] at hy
  have hge : s.heap.size ≤ W.heap.size := X.same.2.1
  rcases hy with rfl | rfl | rfl | rfl | rfl <;> exact Nat.le_trans hge (Nat.le_add_right _ 2)
set_option maxHeartbeats 1000000 in
/-- the machine throws NullPointerException, no traces kept: from its note over the frame g to 'throwing' over the same frame (follows the proof of Stand.vmThrowsNpe, Shelf42/KT2.lean; throwsNpeColdBareVAt, Shelf42/NT91.lean, called) -/
theorem vx_npeAt {p : Program} {l : Launch} {e : Env} {R : Room} {s : State} {m₀ : MethodId} {args : Array Value} {below : List Frame} {meth : Method} {c : Code} {W : State} {locs : List Loc} {cells slots : Nat}
    (X : Stand p l e R s m₀ args below meth c W locs cells slots) (hexec : p.tables.exec = Jvm.exec) (htr : e.platform.stackTraces = false) {n : Nat}
    (h : ∀ a ∈ Bundle.npeArmAtoms n, a.before args s = true)
    (hlocs : ∀ x ∈ locs, ∀ cell, s.heap[x.base]? = some cell → cell.vm.isStatics = false)
    {g : JFrame} (hg : g.method = m₀) (hsize : g.locals.size = c.maxLocals)
    (hRframes : 7 < R.frames) (hRlocals : 2 * g.monitorRoom + (g.stack.map fun v => v.category).sum + 10240 ≤ R.locals)
    (hRcells : cells + 1 ≤ R.cells) (hRslots : slots + n ≤ R.slots) (hlocks : meth.locks = false) :
    ∃ (S : State) (q : Addr) (ce : Cell), (∀ target, Steps p.tables e below ((S.setTop g).pushFrame (.throwing q)) target → Steps p.tables e below ((W.setTop g).pushFrame (.throwNew "java/lang/NullPointerException" none none)) target) ∧
      Stand p l e R s m₀ args below meth c S locs (cells + 1) (slots + n) ∧ S.heap[q]? = some ce ∧ s.vm.findClass "java/lang/NullPointerException" = some ce.cls ∧ ce.vm = .none := by
  have howns : e.platform.frameOwnsMonitors = true := by rw [X.admits.platform]
  have hfin : e.platform.finalization = false := by rw [X.admits.platform]
  have hpl : e.platform.magicAccessors = ({} : Platform).magicAccessors := by rw [X.admits.platform]
  have hpl2 : e.platform.arrayCloneIsPublic = true := by rw [X.admits.platform]
  have a' : ∀ x, x ∈ Bundle.npeArmAtoms n → x.holds args s none s [] = true := fun x hx => h x hx
  obtain ⟨T, Z, L, LZ, Y⟩ := ThrowableC.of_atoms (args := args) howns hfin hpl (fun x hx => h x (by simp [Bundle.npeArmAtoms, hx]))
  obtain ⟨N, LN, hcN, hnNF, hordN, hffS⟩ := NpeC.of_atoms (args := args) hpl hpl2 L Y (fun x hx => h x (by simp [Bundle.npeArmAtoms, hx]))
  obtain ⟨P1, L1, hP1m, hP1s⟩ := PassC.of_atoms (args := args) (s := s) hpl (X := Bundle.nN) (Y := Bundle.rN) (by decide) (by decide) LibCode.NullPointerException.Init0.at_0 LibCode.NullPointerException.Init0.at_1 LibCode.NullPointerException.Init0.at_4 (fun x hx => h x (by simp [Bundle.npeArmAtoms, hx]))
  obtain ⟨PR, LR, hPRm, hPRs⟩ := PassC.of_atoms (args := args) (s := s) hpl (X := Bundle.rN) (Y := Bundle.eN) (by decide) (by decide) LibCode.RuntimeException.Init0.at_0 LibCode.RuntimeException.Init0.at_1 LibCode.RuntimeException.Init0.at_4 (fun x hx => h x (by simp [Bundle.npeArmAtoms, hx]))
  obtain ⟨PE, LEx, hPEm, hPEs⟩ := PassC.of_atoms (args := args) (s := s) hpl (X := Bundle.eN) (Y := Bundle.tN) (by decide) (by decide) LibCode.Exception.Init0.at_0 LibCode.Exception.Init0.at_1 LibCode.Exception.Init0.at_4 (fun x hx => h x (by simp [Bundle.npeArmAtoms, hx]))
  have hfound : s.vm.findClass Bundle.nN = some P1.m.cls := findClass_of_methodNamed hP1m
  have ecls : N.cN = P1.m.cls := Option.some.inj (hcN.symm.trans hfound)
  have hk : s.vm.classes[P1.m.cls]? = some N.kN := by rw [← ecls]; exact LN.cls
  have hinit := Cond.initialized_spec hfound hk (a' (.initialized Bundle.nN) (by simp [Bundle.npeArmAtoms]))
  have hctor : N.kN.findMethod "<init>" "()V" = some P1.m.idx := findMethod_of_methodNamed hP1m hk
  obtain ⟨c1, k1, hc1, hk1, -, -, -, hn⟩ := Cond.instantiable_spec (a' (.instantiable Bundle.nN n) (by simp [Bundle.npeArmAtoms]))
  cases Option.some.inj (hc1.symm.trans hfound)
  cases Option.some.inj (hk1.symm.trans hk)
  have hfsz : (freshCell P1.m.cls N.kN).slots.size = n := by simp [hn]
  have hlink1 : P1.sup = PR.m := Option.some.inj (hP1s.symm.trans hPRm)
  have hlinkR : PR.sup = PE.m := Option.some.inj (hPRs.symm.trans hPEm)
  have hlinkE : PE.sup = Z.m T.toThrowableT := Option.some.inj (hPEs.symm.trans Y.init0)
  have hLs : ∀ P, P ∈ [PR, PE] → P.Links0 e.platform s := fun P hP => by
    simp only [List.mem_cons, List.not_mem_nil, or_false] at hP
    rcases hP with rfl | rfl
    · exact LR
    · exact LEx
  have hsel0 : selectMethod e.platform s.vm P1.m.cls T.fill0 = .method T.fill0 := by
    obtain ⟨c2, r2, m2, q1, q2, q3, q4, -⟩ := Cond.selects_spec (a' (.selects Bundle.nN Bundle.tFill0 Bundle.tFill0) (by simp [Bundle.npeArmAtoms]))
    cases Option.some.inj (q1.symm.trans hfound)
    cases Option.some.inj (q2.symm.trans (State.methodFound?_of_named Y.fill0 (by decide)))
    cases Option.some.inj (q3.symm.trans Y.fill0)
    rw [Launch.admits_selectMethod X.admits]; exact q4
  have hselF : selectMethod e.platform s.vm P1.m.cls T.fill = .method N.fill := by
    obtain ⟨c2, r2, m2, q1, q2, q3, q4, -⟩ := Cond.selects_spec (a' (.selects Bundle.nN Bundle.tFill Bundle.nFill) (by simp [Bundle.npeArmAtoms]))
    cases Option.some.inj (q1.symm.trans hfound)
    cases Option.some.inj (q2.symm.trans (State.methodFound?_of_named Y.fill (by decide)))
    cases Option.some.inj (q3.symm.trans hnNF)
    rw [Launch.admits_selectMethod X.admits]; exact q4
  obtain ⟨cellS0, hcS0, hiss⟩ := Y.statics
  obtain ⟨u0, hu0⟩ := Cond.staticRefV Y.unassigned L.unassignedStatic L.statics hcS0 hiss (a' (.isRef (.static Bundle.tN "UNASSIGNED_STACK" Bundle.steD)) (by simp [Bundle.npeArmAtoms]))
  obtain ⟨sen, hsen⟩ := Cond.staticRefV Y.sentinel L.sentinelStatic L.statics hcS0 hiss (a' (.isRef (.static Bundle.tN "SUPPRESSED_SENTINEL" Bundle.listD)) (by simp [Bundle.npeArmAtoms]))
  obtain ⟨ci198, i198, fB, hk198, hg198, ha198, hsB, -, hnB, htB, hffB⟩ := Cond.ownField (t := .object "java/lang/Object") Y.found L.cls (by decide +kernel) (a' (.fieldLink Bundle.tN 198 Bundle.tN "backtrace" Bundle.objD) (by simp [Bundle.npeArmAtoms])) (a' (.lays Bundle.tN Bundle.tN "backtrace" Bundle.objD) (by simp [Bundle.npeArmAtoms])) e.platform hpl
  obtain ⟨cellS, hcS', heS, -, hkeep⟩ := X.same.2.2.2.2.2 T.aS cellS0 hcS0
  have hcellS : W.heap[T.aS]? = some cellS := hcS'
  have hout' : ∀ i, (⟨T.aS, i⟩ : Loc) ∉ locs := fun i hmem => by
    have := hlocs _ hmem cellS0 hcS0
    rw [hiss] at this; cases this
  have hknownS : cellS.vm ≠ .unknown := by
    rw [heS]; intro hu
    rw [show cellS0.vm = .unknown from hu] at hiss
    cases hiss
  have hvU : cellS.slots[T.fUnassigned.slot]? = some u0.v := by rw [hkeep _ (hout' _)]; exact hu0
  have hvSen : cellS.slots[T.fSentinel.slot]? = some sen.v := by rw [hkeep _ (hout' _)]; exact hsen
  obtain ⟨tyC, dC, hdC, hdnC⟩ := Cond.laysAt hfound hk Y.cause (a' (.lays Bundle.nN Bundle.tN "cause" "Ljava/lang/Throwable;") (by simp [Bundle.npeArmAtoms]))
  obtain ⟨tyS, dS, hdS, hdnS⟩ := Cond.laysAt hfound hk Y.stack (a' (.lays Bundle.nN Bundle.tN "stackTrace" Bundle.steD) (by simp [Bundle.npeArmAtoms]))
  obtain ⟨tyP, dP, hdP, hdnP⟩ := Cond.laysAt hfound hk Y.supp (a' (.lays Bundle.nN Bundle.tN "suppressedExceptions" Bundle.listD) (by simp [Bundle.npeArmAtoms]))
  obtain ⟨tyX, dX, hdX, hdnX⟩ := Cond.laysAt hfound hk hffS (a' (.lays Bundle.nN Bundle.nN "extendedMessageState" "I") (by simp [Bundle.npeArmAtoms, Bundle.npeAtoms]))
  obtain ⟨hnX, htX⟩ := State.fieldFound?_type hffS (t := .int) (by decide +kernel)
  have xC := Cond.laysApart hdC hdX hdnC hdnX (by rw [hnX, Y.causeName]; decide)
  have xS := Cond.laysApart hdS hdX hdnS hdnX (by rw [hnX, Y.stackName]; decide)
  have xP := Cond.laysApart hdP hdX hdnP hdnX (by rw [hnX, Y.suppName]; decide)
  have hv0 : (freshCell P1.m.cls N.kN).slots[N.fState.slot]? = some (.int 0) := by
    have := fresh_default (c := P1.m.cls) tyX
    rw [htX] at this; exact this
  obtain ⟨tyB, dB, hdB, hdnB⟩ := Cond.laysAt hfound hk hffB (a' (.lays Bundle.nN Bundle.tN "backtrace" Bundle.objD) (by simp [Bundle.npeArmAtoms]))
  have bC := Cond.laysApart hdB hdC hdnB hdnC (by rw [hnB, Y.causeName]; decide)
  have bS := Cond.laysApart hdB hdS hdnB hdnS (by rw [hnB, Y.stackName]; decide)
  have bP := Cond.laysApart hdB hdP hdnB hdnP (by rw [hnB, Y.suppName]; decide)
  have bX := Cond.laysApart hdB hdX hdnB hdnX (by rw [hnB, hnX]; decide)
  have hbk : ((npeCell N.toNpeT (preparedCellV T.toThrowableT (freshCell P1.m.cls N.kN) W.heap.size u0 sen) W.cur).withEntry W.cur).slots[fB.slot]? = some .null := by
    have := fresh_default (c := P1.m.cls) tyB
    rw [htB] at this
    simpa [npeCell, preparedCellV, Cell.setSlot, Cell.withEntry, Array.getElem?_setIfInBounds, bC, bS, bP, bX, bC.symm, bS.symm, bP.symm, bX.symm, defaultValue] using this
  have tkC := Takes.of_laid (v := .ref W.heap.size) hk hordN tyC (by rw [Y.causeType]; rfl)
  have tkS := Takes.of_laid (v := u0.v) hk hordN tyS (by rw [Y.stackType]; exact fits_refV_array _ u0)
  have tkP := Takes.of_laid (v := sen.v) hk hordN tyP (by rw [Y.suppType]; exact fits_refV_object _ sen)
  have tkX := Takes.of_laid (v := .int 1) hk hordN tyX (by rw [htX]; rfl)
  have hskip : SkipFacts T e.platform s (fun u => u) u0 ((npeCell N.toNpeT (preparedCellV T.toThrowableT (freshCell P1.m.cls N.kN) W.heap.size u0 sen) W.cur).withEntry W.cur) := ⟨{ ci198 := ci198, i198 := i198, fBack := fB }, ⟨hk198, hg198, ha198, hsB⟩, hbk, fun _ _ => rfl⟩
  obtain ⟨vm', X3, st, -⟩ := X.throwsNpeColdBareVAt hexec hg hsize T L Z LZ N LN P1 L1 [PR, PE] hLs hlink1 ⟨hlinkR, hlinkE, trivial⟩ hfound hk hinit hordN hctor hsel0 hselF hcellS hknownS hvU hvSen
    hv0 xC xS xP tkC tkS tkP tkX Y.objLocals hskip (fun _ _ hA hW _ hroom _ hrest => L.nativeOff p htr hA hW hroom hrest) (by simpa using hRframes) hRlocals (by simp) hRcells (by rw [hn]; exact hRslots)
  have hlt : W.heap.size < ((W.pushCell (freshCell P1.m.cls N.kN)).setVm vm').heap.size := by
    show W.heap.size < (W.pushCell (freshCell P1.m.cls N.kN)).heap.size
    rw [State.heap_size_pushCell]; omega
  rw [hfsz] at X3
  obtain ⟨g₁, hfrM⟩ := X3.frames_eq
  have hU : ((((W.pushCell (freshCell P1.m.cls N.kN)).setVm vm').setCell W.heap.size (npeBareV T.toThrowableT N.toNpeT (freshCell P1.m.cls N.kN) W.heap.size u0 sen)).setTop g).pushFrame (.throwing W.heap.size) = (((W.pushCell (freshCell P1.m.cls N.kN)).setVm vm').setCell W.heap.size (npeBareV T.toThrowableT N.toNpeT (freshCell P1.m.cls N.kN) W.heap.size u0 sen)).setFrames (.throwing W.heap.size :: .java g :: below) := by
    rw [State.pushFrame, State.frames_setTop _ hfrM, State.setTop_of_frames _ hfrM, State.setFrames_setFrames]
  refine ⟨_, W.heap.size, _, fun target ht => st.trans (by rw [← hU]; exact ht), X3.forget (fun y hy => ?_), heapAt_setCell_self _ hlt, hfound, rfl⟩
  simp only [List.mem_cons, List.not_mem_nil, or_false] at hy
  have hge : s.heap.size ≤ W.heap.size := X.same.2.1
  rcases hy with rfl | rfl | rfl | rfl | rfl <;> exact hge
/-- the words of a machine's NullPointerException, but the four that speak of the heap -/
def vx_atN (n : Nat) : List Cond := (Bundle.npeArmAtoms n).filter vx_no
/-- the words of a machine's throw with a message, but the four that speak of the heap -/
def vx_atM (X : String) (names : List String) : List Cond := (Bundle.messageArmAtoms X names).filter vx_no
section
variable {p : Program} {l : Launch} {e : Env} {R : Room} {s : State} {m : MethodId} {args : Array Value} {below : List Frame} {meth : Method} {c : Code} {H : Heap} {locs : List Loc} {cells slots : Nat}
/-- a frame seen from a rebased start, seen from the first start again -/
theorem vx_back9 {T S : State} {R' : Room} {k n : Nat} (X : Stand p l e R s m args below meth c T locs cells slots) (Y : Stand p l e R' ((T.setVm s.vm).setFrames (.invoking m args :: below)) m args below meth c T [] 0 0) (Z : Stand p l e R' ((T.setVm s.vm).setFrames (.invoking m args :: below)) m args below meth c S [] k n) :
    Stand p l e R s m args below meth c S locs (cells + k) (slots + n) := by
  have hW0 : s.WarmedH ((T.setVm s.vm).setFrames (.invoking m args :: below)).vm := State.WarmedH.refl s
  refine { admits := X.admits, cas := X.cas, clock := X.clock, frames := X.frames, room := X.room, hears := X.hears, method := X.method, code := X.code, here := Z.here, tail := Z.tail, warmed := State.WarmedH.trans hW0 Z.warmed, limits := Z.limits.trans (Y.limits.symm.trans X.limits), bytes := Z.bytes.trans (Y.bytes.symm.trans X.bytes), same := ?_ }
  obtain ⟨e1, e2⟩ := Z.same
  rw [State.setFrames_setFrames] at e1
  have h2 : (T.setVm s.vm).sameButNew (S.setVm s.vm) [] k n := ⟨e1, e2⟩
  have h3 := X.same.trans h2
  rw [List.append_nil] at h3
  exact h3
/-- from the machine's note that E is thrown here with this text -/
def vx_Note (p : Program) (l : Launch) (e : Env) (R : Room) (s : State) (m : MethodId) (args : Array Value) (below : List Frame) (meth : Method) (c : Code) (H : Heap) (locs : List Loc) (cells slots : Nat) (Q : State → Prop) (g : JFrame) (E text : String) : Prop :=
  ∀ T : State, T.heap = H → Stand p l e R s m args below meth c T locs cells slots → ∃ t, Steps p.tables e below ((T.setTop g).pushFrame (.throwNew E (some text) none)) t ∧ Q t
theorem vx_vm {pc : Nat} {ls : Array Slot} {rest : List Value} {Q : State → Prop} (hexec : p.tables.exec = Jvm.exec) (hl : l.stackTraces = false) {cls text : String} {names : List String} {nb : Nat} {A : Nat → Prop}
    (hcls : Bundle.fit cls = true) (hnames : ∀ n ∈ names, Bundle.fit n = true) (hsoe : (cls == "java/lang/StackOverflowError") = false) (hoom : (cls == "java/lang/OutOfMemoryError") = false)
    (hat : ∀ w ∈ vx_atM cls names, w.before args s = true) (hgood : ∀ w ∈ vx_atM cls names, vx_ot w = true)
    (hU : vx_Zq Bundle.tN "UNASSIGNED_STACK" Bundle.steD A s s.heap) (hN : vx_Zq Bundle.tN "SUPPRESSED_SENTINEL" Bundle.listD A s s.heap) (hS : va_S A s.heap H locs) (hsize : ls.size = c.maxLocals)
    (htext : (text == notModelled) = false) (hnb : (stringBytes (stringToUtf16 text)).size ≤ nb) (hnb1 : nb ≤ 1000)
    (hRframes : names.length + 4 < R.frames) (hRlocals : (rest.map fun v => v.category).sum + 10240 ≤ R.locals) (hshort : 13 * names.length + 55 ≤ 10240) (hRcells : cells + 3 ≤ R.cells) (hRslots : slots + (nb + 10) ≤ R.slots) (hlocks : meth.locks = false)
    (k : ∀ (H1 : Heap) (q9 : Addr) (ce : Cell), H.size ≤ H1.size → (∀ q : Nat, q < H.size → H1[q]? = H[q]?) → va_S A s.heap H1 locs → H1[q9]? = some ce → ce.vm = .none → s.vm.findClass cls = some ce.cls → vx_W p l e R s m args below meth c H1 locs (cells + 3) (slots + (nb + 10)) Q (F0 m pc ls rest) q9) :
    vx_Note p l e R s m args below meth c H locs cells slots Q (F0 m pc ls rest) cls text := by
  intro T hT X
  have htr : e.platform.stackTraces = false := (show e.platform.stackTraces = l.stackTraces by rw [X.admits.platform]).trans hl
  have Y := vx_rebase X (R' := { frames := R.frames, locals := R.locals, cells := 3, slots := nb + 10 }) (Nat.le_refl _) (Nat.le_refl _) hRcells hRslots
  have hhp : ((T.setVm s.vm).setFrames (.invoking m args :: below)).heap = H := hT
  have hW0 : s.WarmedH ((T.setVm s.vm).setFrames (.invoking m args :: below)).vm := State.WarmedH.refl s
  have hat' : ∀ w ∈ vx_atM cls names, w.before args ((T.setVm s.vm).setFrames (.invoking m args :: below)) = true := fun w hw => vx_ot_at hW0 rfl (hgood w hw) (hat w hw)
  have hU' : vx_Zq Bundle.tN "UNASSIGNED_STACK" Bundle.steD A ((T.setVm s.vm).setFrames (.invoking m args :: below)) ((T.setVm s.vm).setFrames (.invoking m args :: below)).heap := by rw [hhp]; exact vx_Zq.moved hW0.alike (hU.kept hS.2.1)
  have hN' : vx_Zq Bundle.tN "SUPPRESSED_SENTINEL" Bundle.listD A ((T.setVm s.vm).setFrames (.invoking m args :: below)) ((T.setVm s.vm).setFrames (.invoking m args :: below)).heap := by rw [hhp]; exact vx_Zq.moved hW0.alike (hN.kept hS.2.1)
  obtain ⟨S, q, ce, st, Z, hce, hcl', hv⟩ := vx_vmAt Y hexec htr (cls := cls) (names := names) (text := text) hcls hnames hsoe hoom (vx_own hat' (vx_isRefq hU'.1) (vx_isRefq hN'.1) hU'.2.word hN'.2.word) (fun x hx => nomatch hx) htext
    (by rw [Launch.admits_arrayLengthLimit X.admits]; omega) (by rw [Launch.admits_maxHeapBytes X.admits]; simp only [componentBytes]; omega)
    (g := F0 m pc ls rest) rfl hsize hRframes (by show 2 * 0 + (rest.map fun v => v.category).sum + 10240 ≤ R.locals; omega) hshort (by show 0 + 3 ≤ 3; omega) (by show 0 + (_ + 4 + 6) ≤ nb + 10; omega) hlocks
  obtain ⟨f1, f2⟩ := vx_frame Z.same
  have f1' : H.size ≤ S.heap.size := by rw [← hT]; exact f1
  have f2' : ∀ q : Nat, q < H.size → S.heap[q]? = H[q]? := fun q hq => by
    rw [← hT]
    exact f2 q (by rw [← hT] at hq; exact hq) (fun z hz => nomatch hz)
  have X5 := vx_back9 X Y Z
  have X6 : Stand p l e R s m args below meth c S locs (cells + 3) (slots + (nb + 10)) := { X5 with same := X5.same.mono (by omega) (by omega) }
  obtain ⟨t, a1, b1⟩ := k S.heap q ce f1' f2' ⟨Nat.le_trans hS.1 f1', fun q h1 h2 => (f2' q (Nat.lt_of_lt_of_le h1 hS.1)).trans (hS.2.1 q h1 h2), hS.2.2⟩ hce hv hcl' S rfl X6
  exact ⟨t, st t a1, b1⟩
/-- from the machine's note that NullPointerException is thrown here -/
def vx_NoteN (p : Program) (l : Launch) (e : Env) (R : Room) (s : State) (m : MethodId) (args : Array Value) (below : List Frame) (meth : Method) (c : Code) (H : Heap) (locs : List Loc) (cells slots : Nat) (Q : State → Prop) (g : JFrame) : Prop :=
  ∀ T : State, T.heap = H → Stand p l e R s m args below meth c T locs cells slots → ∃ t, Steps p.tables e below ((T.setTop g).pushFrame (.throwNew "java/lang/NullPointerException" none none)) t ∧ Q t
theorem vx_npe {pc : Nat} {ls : Array Slot} {rest : List Value} {Q : State → Prop} (hexec : p.tables.exec = Jvm.exec) (hl : l.stackTraces = false) {nb : Nat} {A : Nat → Prop}
    (hat : ∀ w ∈ vx_atN nb, w.before args s = true) (hgood : ∀ w ∈ vx_atN nb, vx_ot w = true)
    (hU : vx_Zq Bundle.tN "UNASSIGNED_STACK" Bundle.steD A s s.heap) (hN : vx_Zq Bundle.tN "SUPPRESSED_SENTINEL" Bundle.listD A s s.heap) (hS : va_S A s.heap H locs) (hsize : ls.size = c.maxLocals)
    (hRframes : 7 < R.frames) (hRlocals : (rest.map fun v => v.category).sum + 10240 ≤ R.locals) (hRcells : cells + 1 ≤ R.cells) (hRslots : slots + nb ≤ R.slots) (hlocks : meth.locks = false)
    (k : ∀ (H1 : Heap) (q9 : Addr) (ce : Cell), H.size ≤ H1.size → (∀ q : Nat, q < H.size → H1[q]? = H[q]?) → va_S A s.heap H1 locs → H1[q9]? = some ce → ce.vm = .none → s.vm.findClass "java/lang/NullPointerException" = some ce.cls → vx_W p l e R s m args below meth c H1 locs (cells + 1) (slots + nb) Q (F0 m pc ls rest) q9) :
    vx_NoteN p l e R s m args below meth c H locs cells slots Q (F0 m pc ls rest) := by
  intro T hT X
  have htr : e.platform.stackTraces = false := (show e.platform.stackTraces = l.stackTraces by rw [X.admits.platform]).trans hl
  have Y := vx_rebase X (R' := { frames := R.frames, locals := R.locals, cells := 1, slots := nb }) (Nat.le_refl _) (Nat.le_refl _) hRcells hRslots
  have hhp : ((T.setVm s.vm).setFrames (.invoking m args :: below)).heap = H := hT
  have hW0 : s.WarmedH ((T.setVm s.vm).setFrames (.invoking m args :: below)).vm := State.WarmedH.refl s
  have hat' : ∀ w ∈ vx_atN nb, w.before args ((T.setVm s.vm).setFrames (.invoking m args :: below)) = true := fun w hw => vx_ot_at hW0 rfl (hgood w hw) (hat w hw)
  have hU' : vx_Zq Bundle.tN "UNASSIGNED_STACK" Bundle.steD A ((T.setVm s.vm).setFrames (.invoking m args :: below)) ((T.setVm s.vm).setFrames (.invoking m args :: below)).heap := by rw [hhp]; exact vx_Zq.moved hW0.alike (hU.kept hS.2.1)
  have hN' : vx_Zq Bundle.tN "SUPPRESSED_SENTINEL" Bundle.listD A ((T.setVm s.vm).setFrames (.invoking m args :: below)) ((T.setVm s.vm).setFrames (.invoking m args :: below)).heap := by rw [hhp]; exact vx_Zq.moved hW0.alike (hN.kept hS.2.1)
  obtain ⟨S, q, ce, st, Z, hce, hcl', hv⟩ := vx_npeAt Y hexec htr (n := nb) (vx_own hat' (vx_isRefq hU'.1) (vx_isRefq hN'.1) hU'.2.word hN'.2.word) (fun x hx => nomatch hx)
    (g := F0 m pc ls rest) rfl hsize hRframes (by show 2 * 0 + (rest.map fun v => v.category).sum + 10240 ≤ R.locals; omega) (by show 0 + 1 ≤ 1; omega) (by show 0 + nb ≤ nb; omega) hlocks
  obtain ⟨f1, f2⟩ := vx_frame Z.same
  have f1' : H.size ≤ S.heap.size := by rw [← hT]; exact f1
  have f2' : ∀ q : Nat, q < H.size → S.heap[q]? = H[q]? := fun q hq => by
    rw [← hT]
    exact f2 q (by rw [← hT] at hq; exact hq) (fun z hz => nomatch hz)
  have X5 := vx_back9 X Y Z
  have X6 : Stand p l e R s m args below meth c S locs (cells + 1) (slots + nb) := { X5 with same := X5.same.mono (by omega) (by omega) }
  obtain ⟨t, a1, b1⟩ := k S.heap q ce f1' f2' ⟨Nat.le_trans hS.1 f1', fun q h1 h2 => (f2' q (Nat.lt_of_lt_of_le h1 hS.1)).trans (hS.2.1 q h1 h2), hS.2.2⟩ hce hv hcl' S rfl X6
  exact ⟨t, st t a1, b1⟩
variable {Q : State → Prop} {cc : ByteArray} {pc : Nat} {ls : Array Slot} {rest : List Value}
theorem vx_idivZ (hexec : p.tables.exec = Jvm.exec) (hb : c.code = cc) {a b : Int32} (h0 : b = 0) (d : decode cc pc = .ok (.idiv, 1)) (k : vx_Note p l e R s m args below meth c H locs cells slots Q (F0 m pc ls rest) "java/lang/ArithmeticException" "/ by zero") :
    W p l e R s m args below meth c H locs cells slots Q (F0 m pc ls (.int b :: .int a :: rest)) := by
  intro T hT X
  obtain ⟨t, st, q⟩ := k T hT X
  exact ⟨t, X.idivZero hexec (g := F0 m pc ls (.int b :: .int a :: rest)) rfl (a := a) (rest := rest) (by rw [h0]) (by rw [hb]; exact d) t st, q⟩
theorem vx_iremZ (hexec : p.tables.exec = Jvm.exec) (hb : c.code = cc) {a b : Int32} (h0 : b = 0) (d : decode cc pc = .ok (.irem, 1)) (k : vx_Note p l e R s m args below meth c H locs cells slots Q (F0 m pc ls rest) "java/lang/ArithmeticException" "/ by zero") :
    W p l e R s m args below meth c H locs cells slots Q (F0 m pc ls (.int b :: .int a :: rest)) := by
  intro T hT X
  obtain ⟨t, st, q⟩ := k T hT X
  exact ⟨t, X.iremZero hexec (g := F0 m pc ls (.int b :: .int a :: rest)) rfl (a := a) (rest := rest) (by rw [h0]) (by rw [hb]; exact d) t st, q⟩
theorem vx_ldivZ (hexec : p.tables.exec = Jvm.exec) (hb : c.code = cc) {a b : Int64} (h0 : b = 0) (d : decode cc pc = .ok (.ldiv, 1)) (k : vx_Note p l e R s m args below meth c H locs cells slots Q (F0 m pc ls rest) "java/lang/ArithmeticException" "/ by zero") :
    W p l e R s m args below meth c H locs cells slots Q (F0 m pc ls (.long b :: .long a :: rest)) := by
  intro T hT X
  obtain ⟨t, st, q⟩ := k T hT X
  exact ⟨t, X.ldivZero hexec (g := F0 m pc ls (.long b :: .long a :: rest)) rfl (a := a) (rest := rest) (by rw [h0]) (by rw [hb]; exact d) t st, q⟩
theorem vx_lremZ (hexec : p.tables.exec = Jvm.exec) (hb : c.code = cc) {a b : Int64} (h0 : b = 0) (d : decode cc pc = .ok (.lrem, 1)) (k : vx_Note p l e R s m args below meth c H locs cells slots Q (F0 m pc ls rest) "java/lang/ArithmeticException" "/ by zero") :
    W p l e R s m args below meth c H locs cells slots Q (F0 m pc ls (.long b :: .long a :: rest)) := by
  intro T hT X
  obtain ⟨t, st, q⟩ := k T hT X
  exact ⟨t, X.lremZero hexec (g := F0 m pc ls (.long b :: .long a :: rest)) rfl (a := a) (rest := rest) (by rw [h0]) (by rw [hb]; exact d) t st, q⟩
theorem vx_ialdZ {D : va_G} {cl : List vw_C} {ws : va_W} {tys : List (ClassId × FieldType)} {a : Nat} (hexec : p.tables.exec = Jvm.exec) (hb : c.code = cc) (hK : va_K D cl tys s) (hP : va_P D cl ws H) (q0 t0 : Nat) {cA : ClassId} {n : Nat} {f : Nat → Int32} (ha : ws[q0]? = some (a, .inl (cA, n, .inl f))) (ht : tys[t0]? = some (cA, .int)) {i : Int32} (hout : ¬ vp_in i n) (hdg : decode cc pc = .ok (.iaload, 1))
    (k : ∀ tx : String, tx = (toString "Index " ++ toString i ++ toString " out of bounds for length " ++ toString n : String) → vx_Note p l e R s m args below meth c H locs cells slots Q (F0 m pc ls rest) "java/lang/ArrayIndexOutOfBoundsException" tx) : W p l e R s m args below meth c H locs cells slots Q (F0 m pc ls (.int i :: .ref a :: rest)) := by
  intro T hT X
  obtain ⟨t, st, q⟩ := k _ rfl T hT X
  refine ⟨t, ?_, q⟩
  have h1 := X.ialoadOut hexec (by rw [hT]; exact hP q0 _ ha) ((hK.2 t0 _ ht).1 n (fun j => .int (f j))) (j := i) (by show (i < 0 ∨ (arrV _ _ _).slots.size ≤ _); rw [arrV_size]; exact Classical.byContradiction hout) (g := F0 m pc ls (.int i :: .ref a :: rest)) rfl (rest := rest) rfl (by rw [hb]; exact hdg) t
  simp only [arrV_size] at h1
  exact h1 st
theorem vx_iastZ {D : va_G} {cl : List vw_C} {ws : va_W} {tys : List (ClassId × FieldType)} {a : Nat} (hexec : p.tables.exec = Jvm.exec) (hb : c.code = cc) (hK : va_K D cl tys s) (hP : va_P D cl ws H) (q0 t0 : Nat) {cA : ClassId} {n : Nat} {f : Nat → Int32} (ha : ws[q0]? = some (a, .inl (cA, n, .inl f))) (ht : tys[t0]? = some (cA, .int)) {i : Int32} {x : Int32} (hout : ¬ vp_in i n) (hdg : decode cc pc = .ok (.iastore, 1))
    (k : ∀ tx : String, tx = (toString "Index " ++ toString i ++ toString " out of bounds for length " ++ toString n : String) → vx_Note p l e R s m args below meth c H locs cells slots Q (F0 m pc ls rest) "java/lang/ArrayIndexOutOfBoundsException" tx) : W p l e R s m args below meth c H locs cells slots Q (F0 m pc ls (.int x :: .int i :: .ref a :: rest)) := by
  intro T hT X
  obtain ⟨t, st, q⟩ := k _ rfl T hT X
  refine ⟨t, ?_, q⟩
  have h1 := X.iastoreOut hexec (by rw [hT]; exact hP q0 _ ha) ((hK.2 t0 _ ht).1 n (fun j => .int (f j))) (j := i) (by show (i < 0 ∨ (arrV _ _ _).slots.size ≤ _); rw [arrV_size]; exact Classical.byContradiction hout) (g := F0 m pc ls (.int x :: .int i :: .ref a :: rest)) rfl (rest := rest) rfl (by rw [hb]; exact hdg) t
  simp only [arrV_size] at h1
  exact h1 st
theorem vx_baldZ {D : va_G} {cl : List vw_C} {ws : va_W} {tys : List (ClassId × FieldType)} {a : Nat} (hexec : p.tables.exec = Jvm.exec) (hb : c.code = cc) (hK : va_K D cl tys s) (hP : va_P D cl ws H) (q0 t0 : Nat) {cA : ClassId} {n : Nat} {f : Nat → Int32} (ha : ws[q0]? = some (a, .inl (cA, n, .inl f))) (ht : tys[t0]? = some (cA, .byte)) {i : Int32} (hout : ¬ vp_in i n) (hdg : decode cc pc = .ok (.baload, 1))
    (k : ∀ tx : String, tx = (toString "Index " ++ toString i ++ toString " out of bounds for length " ++ toString n : String) → vx_Note p l e R s m args below meth c H locs cells slots Q (F0 m pc ls rest) "java/lang/ArrayIndexOutOfBoundsException" tx) : W p l e R s m args below meth c H locs cells slots Q (F0 m pc ls (.int i :: .ref a :: rest)) := by
  intro T hT X
  obtain ⟨t, st, q⟩ := k _ rfl T hT X
  refine ⟨t, ?_, q⟩
  have h1 := X.baloadOut hexec (by rw [hT]; exact hP q0 _ ha) ((hK.2 t0 _ ht).1 n (fun j => .int (f j))) (j := i) (by show (i < 0 ∨ (arrV _ _ _).slots.size ≤ _); rw [arrV_size]; exact Classical.byContradiction hout) (g := F0 m pc ls (.int i :: .ref a :: rest)) rfl (rest := rest) rfl (by rw [hb]; exact hdg) t
  simp only [arrV_size] at h1
  exact h1 st
theorem vx_bastZ {D : va_G} {cl : List vw_C} {ws : va_W} {tys : List (ClassId × FieldType)} {a : Nat} (hexec : p.tables.exec = Jvm.exec) (hb : c.code = cc) (hK : va_K D cl tys s) (hP : va_P D cl ws H) (q0 t0 : Nat) {cA : ClassId} {n : Nat} {f : Nat → Int32} (ha : ws[q0]? = some (a, .inl (cA, n, .inl f))) (ht : tys[t0]? = some (cA, .byte)) {i : Int32} {x : Int32} (hout : ¬ vp_in i n) (hdg : decode cc pc = .ok (.bastore, 1))
    (k : ∀ tx : String, tx = (toString "Index " ++ toString i ++ toString " out of bounds for length " ++ toString n : String) → vx_Note p l e R s m args below meth c H locs cells slots Q (F0 m pc ls rest) "java/lang/ArrayIndexOutOfBoundsException" tx) : W p l e R s m args below meth c H locs cells slots Q (F0 m pc ls (.int x :: .int i :: .ref a :: rest)) := by
  intro T hT X
  obtain ⟨t, st, q⟩ := k _ rfl T hT X
  refine ⟨t, ?_, q⟩
  have h1 := X.bastoreOut hexec (by rw [hT]; exact hP q0 _ ha) ((hK.2 t0 _ ht).1 n (fun j => .int (f j))) (j := i) (by show (i < 0 ∨ (arrV _ _ _).slots.size ≤ _); rw [arrV_size]; exact Classical.byContradiction hout) (g := F0 m pc ls (.int x :: .int i :: .ref a :: rest)) rfl (rest := rest) rfl (by rw [hb]; exact hdg) t
  simp only [arrV_size] at h1
  exact h1 st
theorem vx_zaldZ {D : va_G} {cl : List vw_C} {ws : va_W} {tys : List (ClassId × FieldType)} {a : Nat} (hexec : p.tables.exec = Jvm.exec) (hb : c.code = cc) (hK : va_K D cl tys s) (hP : va_P D cl ws H) (q0 t0 : Nat) {cA : ClassId} {n : Nat} {f : Nat → Int32} (ha : ws[q0]? = some (a, .inl (cA, n, .inl f))) (ht : tys[t0]? = some (cA, .boolean)) {i : Int32} (hout : ¬ vp_in i n) (hdg : decode cc pc = .ok (.baload, 1))
    (k : ∀ tx : String, tx = (toString "Index " ++ toString i ++ toString " out of bounds for length " ++ toString n : String) → vx_Note p l e R s m args below meth c H locs cells slots Q (F0 m pc ls rest) "java/lang/ArrayIndexOutOfBoundsException" tx) : W p l e R s m args below meth c H locs cells slots Q (F0 m pc ls (.int i :: .ref a :: rest)) := by
  intro T hT X
  obtain ⟨t, st, q⟩ := k _ rfl T hT X
  refine ⟨t, ?_, q⟩
  have h1 := X.baloadOut hexec (by rw [hT]; exact hP q0 _ ha) ((hK.2 t0 _ ht).1 n (fun j => .int (f j))) (j := i) (by show (i < 0 ∨ (arrV _ _ _).slots.size ≤ _); rw [arrV_size]; exact Classical.byContradiction hout) (g := F0 m pc ls (.int i :: .ref a :: rest)) rfl (rest := rest) rfl (by rw [hb]; exact hdg) t
  simp only [arrV_size] at h1
  exact h1 st
theorem vx_zastZ {D : va_G} {cl : List vw_C} {ws : va_W} {tys : List (ClassId × FieldType)} {a : Nat} (hexec : p.tables.exec = Jvm.exec) (hb : c.code = cc) (hK : va_K D cl tys s) (hP : va_P D cl ws H) (q0 t0 : Nat) {cA : ClassId} {n : Nat} {f : Nat → Int32} (ha : ws[q0]? = some (a, .inl (cA, n, .inl f))) (ht : tys[t0]? = some (cA, .boolean)) {i : Int32} {x : Int32} (hout : ¬ vp_in i n) (hdg : decode cc pc = .ok (.bastore, 1))
    (k : ∀ tx : String, tx = (toString "Index " ++ toString i ++ toString " out of bounds for length " ++ toString n : String) → vx_Note p l e R s m args below meth c H locs cells slots Q (F0 m pc ls rest) "java/lang/ArrayIndexOutOfBoundsException" tx) : W p l e R s m args below meth c H locs cells slots Q (F0 m pc ls (.int x :: .int i :: .ref a :: rest)) := by
  intro T hT X
  obtain ⟨t, st, q⟩ := k _ rfl T hT X
  refine ⟨t, ?_, q⟩
  have h1 := X.bastoreOut hexec (by rw [hT]; exact hP q0 _ ha) ((hK.2 t0 _ ht).1 n (fun j => .int (f j))) (j := i) (by show (i < 0 ∨ (arrV _ _ _).slots.size ≤ _); rw [arrV_size]; exact Classical.byContradiction hout) (g := F0 m pc ls (.int x :: .int i :: .ref a :: rest)) rfl (rest := rest) rfl (by rw [hb]; exact hdg) t
  simp only [arrV_size] at h1
  exact h1 st
theorem vx_caldZ {D : va_G} {cl : List vw_C} {ws : va_W} {tys : List (ClassId × FieldType)} {a : Nat} (hexec : p.tables.exec = Jvm.exec) (hb : c.code = cc) (hK : va_K D cl tys s) (hP : va_P D cl ws H) (q0 t0 : Nat) {cA : ClassId} {n : Nat} {f : Nat → Int32} (ha : ws[q0]? = some (a, .inl (cA, n, .inl f))) (ht : tys[t0]? = some (cA, .char)) {i : Int32} (hout : ¬ vp_in i n) (hdg : decode cc pc = .ok (.caload, 1))
    (k : ∀ tx : String, tx = (toString "Index " ++ toString i ++ toString " out of bounds for length " ++ toString n : String) → vx_Note p l e R s m args below meth c H locs cells slots Q (F0 m pc ls rest) "java/lang/ArrayIndexOutOfBoundsException" tx) : W p l e R s m args below meth c H locs cells slots Q (F0 m pc ls (.int i :: .ref a :: rest)) := by
  intro T hT X
  obtain ⟨t, st, q⟩ := k _ rfl T hT X
  refine ⟨t, ?_, q⟩
  have h1 := X.caloadOut hexec (by rw [hT]; exact hP q0 _ ha) ((hK.2 t0 _ ht).1 n (fun j => .int (f j))) (j := i) (by show (i < 0 ∨ (arrV _ _ _).slots.size ≤ _); rw [arrV_size]; exact Classical.byContradiction hout) (g := F0 m pc ls (.int i :: .ref a :: rest)) rfl (rest := rest) rfl (by rw [hb]; exact hdg) t
  simp only [arrV_size] at h1
  exact h1 st
theorem vx_castZ {D : va_G} {cl : List vw_C} {ws : va_W} {tys : List (ClassId × FieldType)} {a : Nat} (hexec : p.tables.exec = Jvm.exec) (hb : c.code = cc) (hK : va_K D cl tys s) (hP : va_P D cl ws H) (q0 t0 : Nat) {cA : ClassId} {n : Nat} {f : Nat → Int32} (ha : ws[q0]? = some (a, .inl (cA, n, .inl f))) (ht : tys[t0]? = some (cA, .char)) {i : Int32} {x : Int32} (hout : ¬ vp_in i n) (hdg : decode cc pc = .ok (.castore, 1))
    (k : ∀ tx : String, tx = (toString "Index " ++ toString i ++ toString " out of bounds for length " ++ toString n : String) → vx_Note p l e R s m args below meth c H locs cells slots Q (F0 m pc ls rest) "java/lang/ArrayIndexOutOfBoundsException" tx) : W p l e R s m args below meth c H locs cells slots Q (F0 m pc ls (.int x :: .int i :: .ref a :: rest)) := by
  intro T hT X
  obtain ⟨t, st, q⟩ := k _ rfl T hT X
  refine ⟨t, ?_, q⟩
  have h1 := X.castoreOut hexec (by rw [hT]; exact hP q0 _ ha) ((hK.2 t0 _ ht).1 n (fun j => .int (f j))) (j := i) (by show (i < 0 ∨ (arrV _ _ _).slots.size ≤ _); rw [arrV_size]; exact Classical.byContradiction hout) (g := F0 m pc ls (.int x :: .int i :: .ref a :: rest)) rfl (rest := rest) rfl (by rw [hb]; exact hdg) t
  simp only [arrV_size] at h1
  exact h1 st
theorem vx_saldZ {D : va_G} {cl : List vw_C} {ws : va_W} {tys : List (ClassId × FieldType)} {a : Nat} (hexec : p.tables.exec = Jvm.exec) (hb : c.code = cc) (hK : va_K D cl tys s) (hP : va_P D cl ws H) (q0 t0 : Nat) {cA : ClassId} {n : Nat} {f : Nat → Int32} (ha : ws[q0]? = some (a, .inl (cA, n, .inl f))) (ht : tys[t0]? = some (cA, .short)) {i : Int32} (hout : ¬ vp_in i n) (hdg : decode cc pc = .ok (.saload, 1))
    (k : ∀ tx : String, tx = (toString "Index " ++ toString i ++ toString " out of bounds for length " ++ toString n : String) → vx_Note p l e R s m args below meth c H locs cells slots Q (F0 m pc ls rest) "java/lang/ArrayIndexOutOfBoundsException" tx) : W p l e R s m args below meth c H locs cells slots Q (F0 m pc ls (.int i :: .ref a :: rest)) := by
  intro T hT X
  obtain ⟨t, st, q⟩ := k _ rfl T hT X
  refine ⟨t, ?_, q⟩
  have h1 := X.saloadOut hexec (by rw [hT]; exact hP q0 _ ha) ((hK.2 t0 _ ht).1 n (fun j => .int (f j))) (j := i) (by show (i < 0 ∨ (arrV _ _ _).slots.size ≤ _); rw [arrV_size]; exact Classical.byContradiction hout) (g := F0 m pc ls (.int i :: .ref a :: rest)) rfl (rest := rest) rfl (by rw [hb]; exact hdg) t
  simp only [arrV_size] at h1
  exact h1 st
theorem vx_sastZ {D : va_G} {cl : List vw_C} {ws : va_W} {tys : List (ClassId × FieldType)} {a : Nat} (hexec : p.tables.exec = Jvm.exec) (hb : c.code = cc) (hK : va_K D cl tys s) (hP : va_P D cl ws H) (q0 t0 : Nat) {cA : ClassId} {n : Nat} {f : Nat → Int32} (ha : ws[q0]? = some (a, .inl (cA, n, .inl f))) (ht : tys[t0]? = some (cA, .short)) {i : Int32} {x : Int32} (hout : ¬ vp_in i n) (hdg : decode cc pc = .ok (.sastore, 1))
    (k : ∀ tx : String, tx = (toString "Index " ++ toString i ++ toString " out of bounds for length " ++ toString n : String) → vx_Note p l e R s m args below meth c H locs cells slots Q (F0 m pc ls rest) "java/lang/ArrayIndexOutOfBoundsException" tx) : W p l e R s m args below meth c H locs cells slots Q (F0 m pc ls (.int x :: .int i :: .ref a :: rest)) := by
  intro T hT X
  obtain ⟨t, st, q⟩ := k _ rfl T hT X
  refine ⟨t, ?_, q⟩
  have h1 := X.sastoreOut hexec (by rw [hT]; exact hP q0 _ ha) ((hK.2 t0 _ ht).1 n (fun j => .int (f j))) (j := i) (by show (i < 0 ∨ (arrV _ _ _).slots.size ≤ _); rw [arrV_size]; exact Classical.byContradiction hout) (g := F0 m pc ls (.int x :: .int i :: .ref a :: rest)) rfl (rest := rest) rfl (by rw [hb]; exact hdg) t
  simp only [arrV_size] at h1
  exact h1 st
theorem vx_laldZ {D : va_G} {cl : List vw_C} {ws : va_W} {tys : List (ClassId × FieldType)} {a : Nat} (hexec : p.tables.exec = Jvm.exec) (hb : c.code = cc) (hK : va_K D cl tys s) (hP : va_P D cl ws H) (q0 t0 : Nat) {cA : ClassId} {n : Nat} {f : Nat → Int64} (ha : ws[q0]? = some (a, .inl (cA, n, .inr (.inl f)))) (ht : tys[t0]? = some (cA, .long)) {i : Int32} (hout : ¬ vp_in i n) (hdg : decode cc pc = .ok (.laload, 1))
    (k : ∀ tx : String, tx = (toString "Index " ++ toString i ++ toString " out of bounds for length " ++ toString n : String) → vx_Note p l e R s m args below meth c H locs cells slots Q (F0 m pc ls rest) "java/lang/ArrayIndexOutOfBoundsException" tx) : W p l e R s m args below meth c H locs cells slots Q (F0 m pc ls (.int i :: .ref a :: rest)) := by
  intro T hT X
  obtain ⟨t, st, q⟩ := k _ rfl T hT X
  refine ⟨t, ?_, q⟩
  have h1 := X.laloadOut hexec (by rw [hT]; exact hP q0 _ ha) ((hK.2 t0 _ ht).1 n (fun j => .long (f j))) (j := i) (by show (i < 0 ∨ (arrV _ _ _).slots.size ≤ _); rw [arrV_size]; exact Classical.byContradiction hout) (g := F0 m pc ls (.int i :: .ref a :: rest)) rfl (rest := rest) rfl (by rw [hb]; exact hdg) t
  simp only [arrV_size] at h1
  exact h1 st
theorem vx_lastZ {D : va_G} {cl : List vw_C} {ws : va_W} {tys : List (ClassId × FieldType)} {a : Nat} (hexec : p.tables.exec = Jvm.exec) (hb : c.code = cc) (hK : va_K D cl tys s) (hP : va_P D cl ws H) (q0 t0 : Nat) {cA : ClassId} {n : Nat} {f : Nat → Int64} (ha : ws[q0]? = some (a, .inl (cA, n, .inr (.inl f)))) (ht : tys[t0]? = some (cA, .long)) {i : Int32} {x : Int64} (hout : ¬ vp_in i n) (hdg : decode cc pc = .ok (.lastore, 1))
    (k : ∀ tx : String, tx = (toString "Index " ++ toString i ++ toString " out of bounds for length " ++ toString n : String) → vx_Note p l e R s m args below meth c H locs cells slots Q (F0 m pc ls rest) "java/lang/ArrayIndexOutOfBoundsException" tx) : W p l e R s m args below meth c H locs cells slots Q (F0 m pc ls (.long x :: .int i :: .ref a :: rest)) := by
  intro T hT X
  obtain ⟨t, st, q⟩ := k _ rfl T hT X
  refine ⟨t, ?_, q⟩
  have h1 := X.lastoreOut hexec (by rw [hT]; exact hP q0 _ ha) ((hK.2 t0 _ ht).1 n (fun j => .long (f j))) (j := i) (by show (i < 0 ∨ (arrV _ _ _).slots.size ≤ _); rw [arrV_size]; exact Classical.byContradiction hout) (g := F0 m pc ls (.long x :: .int i :: .ref a :: rest)) rfl (rest := rest) rfl (by rw [hb]; exact hdg) t
  simp only [arrV_size] at h1
  exact h1 st
theorem vx_faldZ {D : va_G} {cl : List vw_C} {ws : va_W} {tys : List (ClassId × FieldType)} {a : Nat} (hexec : p.tables.exec = Jvm.exec) (hb : c.code = cc) (hK : va_K D cl tys s) (hP : va_P D cl ws H) (q0 t0 : Nat) {cA : ClassId} {n : Nat} {f : Nat → UInt32} (ha : ws[q0]? = some (a, .inl (cA, n, .inr (.inr (.inl f))))) (ht : tys[t0]? = some (cA, .float)) {i : Int32} (hout : ¬ vp_in i n) (hdg : decode cc pc = .ok (.faload, 1))
    (k : ∀ tx : String, tx = (toString "Index " ++ toString i ++ toString " out of bounds for length " ++ toString n : String) → vx_Note p l e R s m args below meth c H locs cells slots Q (F0 m pc ls rest) "java/lang/ArrayIndexOutOfBoundsException" tx) : W p l e R s m args below meth c H locs cells slots Q (F0 m pc ls (.int i :: .ref a :: rest)) := by
  intro T hT X
  obtain ⟨t, st, q⟩ := k _ rfl T hT X
  refine ⟨t, ?_, q⟩
  have h1 := X.faloadOut hexec (by rw [hT]; exact hP q0 _ ha) ((hK.2 t0 _ ht).1 n (fun j => .float (f j))) (j := i) (by show (i < 0 ∨ (arrV _ _ _).slots.size ≤ _); rw [arrV_size]; exact Classical.byContradiction hout) (g := F0 m pc ls (.int i :: .ref a :: rest)) rfl (rest := rest) rfl (by rw [hb]; exact hdg) t
  simp only [arrV_size] at h1
  exact h1 st
theorem vx_fastZ {D : va_G} {cl : List vw_C} {ws : va_W} {tys : List (ClassId × FieldType)} {a : Nat} (hexec : p.tables.exec = Jvm.exec) (hb : c.code = cc) (hK : va_K D cl tys s) (hP : va_P D cl ws H) (q0 t0 : Nat) {cA : ClassId} {n : Nat} {f : Nat → UInt32} (ha : ws[q0]? = some (a, .inl (cA, n, .inr (.inr (.inl f))))) (ht : tys[t0]? = some (cA, .float)) {i : Int32} {x : UInt32} (hout : ¬ vp_in i n) (hdg : decode cc pc = .ok (.fastore, 1))
    (k : ∀ tx : String, tx = (toString "Index " ++ toString i ++ toString " out of bounds for length " ++ toString n : String) → vx_Note p l e R s m args below meth c H locs cells slots Q (F0 m pc ls rest) "java/lang/ArrayIndexOutOfBoundsException" tx) : W p l e R s m args below meth c H locs cells slots Q (F0 m pc ls (.float x :: .int i :: .ref a :: rest)) := by
  intro T hT X
  obtain ⟨t, st, q⟩ := k _ rfl T hT X
  refine ⟨t, ?_, q⟩
  have h1 := X.fastoreOut hexec (by rw [hT]; exact hP q0 _ ha) ((hK.2 t0 _ ht).1 n (fun j => .float (f j))) (j := i) (by show (i < 0 ∨ (arrV _ _ _).slots.size ≤ _); rw [arrV_size]; exact Classical.byContradiction hout) (g := F0 m pc ls (.float x :: .int i :: .ref a :: rest)) rfl (rest := rest) rfl (by rw [hb]; exact hdg) t
  simp only [arrV_size] at h1
  exact h1 st
theorem vx_daldZ {D : va_G} {cl : List vw_C} {ws : va_W} {tys : List (ClassId × FieldType)} {a : Nat} (hexec : p.tables.exec = Jvm.exec) (hb : c.code = cc) (hK : va_K D cl tys s) (hP : va_P D cl ws H) (q0 t0 : Nat) {cA : ClassId} {n : Nat} {f : Nat → UInt64} (ha : ws[q0]? = some (a, .inl (cA, n, .inr (.inr (.inr (.inl f)))))) (ht : tys[t0]? = some (cA, .double)) {i : Int32} (hout : ¬ vp_in i n) (hdg : decode cc pc = .ok (.daload, 1))
    (k : ∀ tx : String, tx = (toString "Index " ++ toString i ++ toString " out of bounds for length " ++ toString n : String) → vx_Note p l e R s m args below meth c H locs cells slots Q (F0 m pc ls rest) "java/lang/ArrayIndexOutOfBoundsException" tx) : W p l e R s m args below meth c H locs cells slots Q (F0 m pc ls (.int i :: .ref a :: rest)) := by
  intro T hT X
  obtain ⟨t, st, q⟩ := k _ rfl T hT X
  refine ⟨t, ?_, q⟩
  have h1 := X.daloadOut hexec (by rw [hT]; exact hP q0 _ ha) ((hK.2 t0 _ ht).1 n (fun j => .double (f j))) (j := i) (by show (i < 0 ∨ (arrV _ _ _).slots.size ≤ _); rw [arrV_size]; exact Classical.byContradiction hout) (g := F0 m pc ls (.int i :: .ref a :: rest)) rfl (rest := rest) rfl (by rw [hb]; exact hdg) t
  simp only [arrV_size] at h1
  exact h1 st
theorem vx_dastZ {D : va_G} {cl : List vw_C} {ws : va_W} {tys : List (ClassId × FieldType)} {a : Nat} (hexec : p.tables.exec = Jvm.exec) (hb : c.code = cc) (hK : va_K D cl tys s) (hP : va_P D cl ws H) (q0 t0 : Nat) {cA : ClassId} {n : Nat} {f : Nat → UInt64} (ha : ws[q0]? = some (a, .inl (cA, n, .inr (.inr (.inr (.inl f)))))) (ht : tys[t0]? = some (cA, .double)) {i : Int32} {x : UInt64} (hout : ¬ vp_in i n) (hdg : decode cc pc = .ok (.dastore, 1))
    (k : ∀ tx : String, tx = (toString "Index " ++ toString i ++ toString " out of bounds for length " ++ toString n : String) → vx_Note p l e R s m args below meth c H locs cells slots Q (F0 m pc ls rest) "java/lang/ArrayIndexOutOfBoundsException" tx) : W p l e R s m args below meth c H locs cells slots Q (F0 m pc ls (.double x :: .int i :: .ref a :: rest)) := by
  intro T hT X
  obtain ⟨t, st, q⟩ := k _ rfl T hT X
  refine ⟨t, ?_, q⟩
  have h1 := X.dastoreOut hexec (by rw [hT]; exact hP q0 _ ha) ((hK.2 t0 _ ht).1 n (fun j => .double (f j))) (j := i) (by show (i < 0 ∨ (arrV _ _ _).slots.size ≤ _); rw [arrV_size]; exact Classical.byContradiction hout) (g := F0 m pc ls (.double x :: .int i :: .ref a :: rest)) rfl (rest := rest) rfl (by rw [hb]; exact hdg) t
  simp only [arrV_size] at h1
  exact h1 st
theorem vx_arraylengthN (hexec : p.tables.exec = Jvm.exec) (hb : c.code = cc) (hdg : decode cc pc = .ok (.arraylength, 1)) (k : vx_NoteN p l e R s m args below meth c H locs cells slots Q (F0 m pc ls rest)) : W p l e R s m args below meth c H locs cells slots Q (F0 m pc ls (.null :: rest)) := by
  intro T hT X
  obtain ⟨t, st, q⟩ := k T hT X
  exact ⟨t, X.arraylengthNull hexec (g := F0 m pc ls (.null :: rest)) rfl (rest := rest) rfl (by rw [hb]; exact hdg) t st, q⟩
theorem vx_ialoadN (hexec : p.tables.exec = Jvm.exec) (hb : c.code = cc) {i : Int32} (hdg : decode cc pc = .ok (.iaload, 1)) (k : vx_NoteN p l e R s m args below meth c H locs cells slots Q (F0 m pc ls rest)) : W p l e R s m args below meth c H locs cells slots Q (F0 m pc ls (.int i :: .null :: rest)) := by
  intro T hT X
  obtain ⟨t, st, q⟩ := k T hT X
  exact ⟨t, X.ialoadNull hexec (g := F0 m pc ls (.int i :: .null :: rest)) rfl (rest := rest) rfl (by rw [hb]; exact hdg) t st, q⟩
theorem vx_laloadN (hexec : p.tables.exec = Jvm.exec) (hb : c.code = cc) {i : Int32} (hdg : decode cc pc = .ok (.laload, 1)) (k : vx_NoteN p l e R s m args below meth c H locs cells slots Q (F0 m pc ls rest)) : W p l e R s m args below meth c H locs cells slots Q (F0 m pc ls (.int i :: .null :: rest)) := by
  intro T hT X
  obtain ⟨t, st, q⟩ := k T hT X
  exact ⟨t, X.laloadNull hexec (g := F0 m pc ls (.int i :: .null :: rest)) rfl (rest := rest) rfl (by rw [hb]; exact hdg) t st, q⟩
theorem vx_faloadN (hexec : p.tables.exec = Jvm.exec) (hb : c.code = cc) {i : Int32} (hdg : decode cc pc = .ok (.faload, 1)) (k : vx_NoteN p l e R s m args below meth c H locs cells slots Q (F0 m pc ls rest)) : W p l e R s m args below meth c H locs cells slots Q (F0 m pc ls (.int i :: .null :: rest)) := by
  intro T hT X
  obtain ⟨t, st, q⟩ := k T hT X
  exact ⟨t, X.faloadNull hexec (g := F0 m pc ls (.int i :: .null :: rest)) rfl (rest := rest) rfl (by rw [hb]; exact hdg) t st, q⟩
theorem vx_daloadN (hexec : p.tables.exec = Jvm.exec) (hb : c.code = cc) {i : Int32} (hdg : decode cc pc = .ok (.daload, 1)) (k : vx_NoteN p l e R s m args below meth c H locs cells slots Q (F0 m pc ls rest)) : W p l e R s m args below meth c H locs cells slots Q (F0 m pc ls (.int i :: .null :: rest)) := by
  intro T hT X
  obtain ⟨t, st, q⟩ := k T hT X
  exact ⟨t, X.daloadNull hexec (g := F0 m pc ls (.int i :: .null :: rest)) rfl (rest := rest) rfl (by rw [hb]; exact hdg) t st, q⟩
theorem vx_aaloadN (hexec : p.tables.exec = Jvm.exec) (hb : c.code = cc) {i : Int32} (hdg : decode cc pc = .ok (.aaload, 1)) (k : vx_NoteN p l e R s m args below meth c H locs cells slots Q (F0 m pc ls rest)) : W p l e R s m args below meth c H locs cells slots Q (F0 m pc ls (.int i :: .null :: rest)) := by
  intro T hT X
  obtain ⟨t, st, q⟩ := k T hT X
  exact ⟨t, X.aaloadNull hexec (g := F0 m pc ls (.int i :: .null :: rest)) rfl (rest := rest) rfl (by rw [hb]; exact hdg) t st, q⟩
theorem vx_baloadN (hexec : p.tables.exec = Jvm.exec) (hb : c.code = cc) {i : Int32} (hdg : decode cc pc = .ok (.baload, 1)) (k : vx_NoteN p l e R s m args below meth c H locs cells slots Q (F0 m pc ls rest)) : W p l e R s m args below meth c H locs cells slots Q (F0 m pc ls (.int i :: .null :: rest)) := by
  intro T hT X
  obtain ⟨t, st, q⟩ := k T hT X
  exact ⟨t, X.baloadNull hexec (g := F0 m pc ls (.int i :: .null :: rest)) rfl (rest := rest) rfl (by rw [hb]; exact hdg) t st, q⟩
theorem vx_caloadN (hexec : p.tables.exec = Jvm.exec) (hb : c.code = cc) {i : Int32} (hdg : decode cc pc = .ok (.caload, 1)) (k : vx_NoteN p l e R s m args below meth c H locs cells slots Q (F0 m pc ls rest)) : W p l e R s m args below meth c H locs cells slots Q (F0 m pc ls (.int i :: .null :: rest)) := by
  intro T hT X
  obtain ⟨t, st, q⟩ := k T hT X
  exact ⟨t, X.caloadNull hexec (g := F0 m pc ls (.int i :: .null :: rest)) rfl (rest := rest) rfl (by rw [hb]; exact hdg) t st, q⟩
theorem vx_saloadN (hexec : p.tables.exec = Jvm.exec) (hb : c.code = cc) {i : Int32} (hdg : decode cc pc = .ok (.saload, 1)) (k : vx_NoteN p l e R s m args below meth c H locs cells slots Q (F0 m pc ls rest)) : W p l e R s m args below meth c H locs cells slots Q (F0 m pc ls (.int i :: .null :: rest)) := by
  intro T hT X
  obtain ⟨t, st, q⟩ := k T hT X
  exact ⟨t, X.saloadNull hexec (g := F0 m pc ls (.int i :: .null :: rest)) rfl (rest := rest) rfl (by rw [hb]; exact hdg) t st, q⟩
theorem vx_iastoreN (hexec : p.tables.exec = Jvm.exec) (hb : c.code = cc) {x : Int32} {i : Int32} (hdg : decode cc pc = .ok (.iastore, 1)) (k : vx_NoteN p l e R s m args below meth c H locs cells slots Q (F0 m pc ls rest)) : W p l e R s m args below meth c H locs cells slots Q (F0 m pc ls (.int x :: .int i :: .null :: rest)) := by
  intro T hT X
  obtain ⟨t, st, q⟩ := k T hT X
  exact ⟨t, X.iastoreNull hexec (g := F0 m pc ls (.int x :: .int i :: .null :: rest)) rfl (rest := rest) rfl (by rw [hb]; exact hdg) t st, q⟩
theorem vx_lastoreN (hexec : p.tables.exec = Jvm.exec) (hb : c.code = cc) {x : Int64} {i : Int32} (hdg : decode cc pc = .ok (.lastore, 1)) (k : vx_NoteN p l e R s m args below meth c H locs cells slots Q (F0 m pc ls rest)) : W p l e R s m args below meth c H locs cells slots Q (F0 m pc ls (.long x :: .int i :: .null :: rest)) := by
  intro T hT X
  obtain ⟨t, st, q⟩ := k T hT X
  exact ⟨t, X.lastoreNull hexec (g := F0 m pc ls (.long x :: .int i :: .null :: rest)) rfl (rest := rest) rfl (by rw [hb]; exact hdg) t st, q⟩
theorem vx_fastoreN (hexec : p.tables.exec = Jvm.exec) (hb : c.code = cc) {x : UInt32} {i : Int32} (hdg : decode cc pc = .ok (.fastore, 1)) (k : vx_NoteN p l e R s m args below meth c H locs cells slots Q (F0 m pc ls rest)) : W p l e R s m args below meth c H locs cells slots Q (F0 m pc ls (.float x :: .int i :: .null :: rest)) := by
  intro T hT X
  obtain ⟨t, st, q⟩ := k T hT X
  exact ⟨t, X.fastoreNull hexec (g := F0 m pc ls (.float x :: .int i :: .null :: rest)) rfl (rest := rest) rfl (by rw [hb]; exact hdg) t st, q⟩
theorem vx_dastoreN (hexec : p.tables.exec = Jvm.exec) (hb : c.code = cc) {x : UInt64} {i : Int32} (hdg : decode cc pc = .ok (.dastore, 1)) (k : vx_NoteN p l e R s m args below meth c H locs cells slots Q (F0 m pc ls rest)) : W p l e R s m args below meth c H locs cells slots Q (F0 m pc ls (.double x :: .int i :: .null :: rest)) := by
  intro T hT X
  obtain ⟨t, st, q⟩ := k T hT X
  exact ⟨t, X.dastoreNull hexec (g := F0 m pc ls (.double x :: .int i :: .null :: rest)) rfl (rest := rest) rfl (by rw [hb]; exact hdg) t st, q⟩
theorem vx_bastoreN (hexec : p.tables.exec = Jvm.exec) (hb : c.code = cc) {x : Int32} {i : Int32} (hdg : decode cc pc = .ok (.bastore, 1)) (k : vx_NoteN p l e R s m args below meth c H locs cells slots Q (F0 m pc ls rest)) : W p l e R s m args below meth c H locs cells slots Q (F0 m pc ls (.int x :: .int i :: .null :: rest)) := by
  intro T hT X
  obtain ⟨t, st, q⟩ := k T hT X
  exact ⟨t, X.bastoreNull hexec (g := F0 m pc ls (.int x :: .int i :: .null :: rest)) rfl (rest := rest) rfl (by rw [hb]; exact hdg) t st, q⟩
theorem vx_castoreN (hexec : p.tables.exec = Jvm.exec) (hb : c.code = cc) {x : Int32} {i : Int32} (hdg : decode cc pc = .ok (.castore, 1)) (k : vx_NoteN p l e R s m args below meth c H locs cells slots Q (F0 m pc ls rest)) : W p l e R s m args below meth c H locs cells slots Q (F0 m pc ls (.int x :: .int i :: .null :: rest)) := by
  intro T hT X
  obtain ⟨t, st, q⟩ := k T hT X
  exact ⟨t, X.castoreNull hexec (g := F0 m pc ls (.int x :: .int i :: .null :: rest)) rfl (rest := rest) rfl (by rw [hb]; exact hdg) t st, q⟩
theorem vx_sastoreN (hexec : p.tables.exec = Jvm.exec) (hb : c.code = cc) {x : Int32} {i : Int32} (hdg : decode cc pc = .ok (.sastore, 1)) (k : vx_NoteN p l e R s m args below meth c H locs cells slots Q (F0 m pc ls rest)) : W p l e R s m args below meth c H locs cells slots Q (F0 m pc ls (.int x :: .int i :: .null :: rest)) := by
  intro T hT X
  obtain ⟨t, st, q⟩ := k T hT X
  exact ⟨t, X.sastoreNull hexec (g := F0 m pc ls (.int x :: .int i :: .null :: rest)) rfl (rest := rest) rfl (by rw [hb]; exact hdg) t st, q⟩
theorem vx_invokeN {own C : String} {index maxL : Nat} {y : MethodName} {bytes : ByteArray} {ret : Option FieldType} (hexec : p.tables.exec = Jvm.exec) (hb : c.code = cc) (hown : s.vm.findClass own = some m.cls) (hlink : (Cond.methodLink own index y).before args s = true) (hinst : (Cond.instanceMethod y).before args s = true) (hcode : (Cond.code y bytes maxL ret).before args s = true) (hsel : (Cond.selects C y y).before args s = true)
    (hx : y.cls ≠ "java/lang/invoke/MethodHandle" ∧ y.cls ≠ "java/lang/invoke/VarHandle") {As : List Value} (hlen : (parseMethodDescriptor y.desc).map (fun d => d.parameters.length) = some As.length) (hdg : decode cc pc = .ok (.invokevirtual index, 3))
    (k : vx_NoteN p l e R s m args below meth c H locs cells slots Q (F0 m pc ls rest)) {st0 : List Value} (hst : st0 = As.reverse ++ .null :: rest) : W p l e R s m args below meth c H locs cells slots Q (F0 m pc ls st0) := by
  intro T hT X
  obtain ⟨r0, r, hn, hrm, hstR, hsigR⟩ := va_Decl.of hinst hcode
  obtain ⟨c2, r2, m2, q1, q2, q3, q4, kP, hkP, hkPi⟩ := Cond.selects_spec hsel
  cases hn.symm.trans q3
  have hl9 : As.length = r.sig.parameters.length := by
    rw [hsigR] at hlen
    exact (Option.some.inj hlen).symm
  obtain ⟨vm', X1, st1⟩ := X.invokevirtualNull hexec hown hlink hn hrm hstR hkP hkPi hx (g := F0 m pc ls st0) rfl (argsL := As) (rest := rest) hl9 hst (by rw [hb]; exact hdg)
  obtain ⟨t, st, q⟩ := k (T.setVm vm') hT X1
  exact ⟨t, st1 t st, q⟩
theorem vx_newarrayZ {atype : ArrayType} (hexec : p.tables.exec = Jvm.exec) (hb : c.code = cc) {n : Int32} (h0 : n < 0) (hdg : decode cc pc = .ok (.newarray atype, 2)) (k : ∀ tx : String, tx = toString n → vx_Note p l e R s m args below meth c H locs cells slots Q (F0 m pc ls rest) "java/lang/NegativeArraySizeException" tx) : W p l e R s m args below meth c H locs cells slots Q (F0 m pc ls (.int n :: rest)) := by
  intro T hT X
  obtain ⟨t, st, q⟩ := k _ rfl T hT X
  exact ⟨t, X.newarrayNegative hexec (g := F0 m pc ls (.int n :: rest)) rfl h0 (rest := rest) rfl (by rw [hb]; exact hdg) t st, q⟩
end
end VXM
/-! ===== END ===== -/

section NXA
/-- a constructor of one text that hands it to its upper by entry 13 -/
def nx_six : ByteArray := ⟨#[0x2a, 0x2b, 0xb7, 0x00, 0x0d, 0xb1]⟩
theorem nx_d0 : decode nx_six 0 = .ok (.aload_n 0, 1) := by decide +kernel
theorem nx_d1 : decode nx_six 1 = .ok (.aload_n 1, 1) := by decide +kernel
theorem nx_d2 : decode nx_six 2 = .ok (.invokespecial 13, 3) := by decide +kernel
theorem nx_d5 : decode nx_six 5 = .ok (.return_, 1) := by decide +kernel
def nx_chain (X : String) : List String → List Cond
  | [] => Bundle.passSAtoms X Bundle.tN 13 nx_six
  | Y :: r => Bundle.passSAtoms X Y 13 nx_six ++ Bundle.chainSAtoms Y r
theorem nx_chain_ok {args : Array Value} {s : State} {pl : Platform} (hpl : pl.magicAccessors = ({} : Platform).magicAccessors) {top : MethodId} (htop : s.methodNamed? (Bundle.initS Bundle.tN) = some top) :
    ∀ (names : List String) (X : String), Bundle.fit X = true → (∀ n ∈ names, Bundle.fit n = true) → (∀ c ∈ nx_chain X names, c.before args s = true) →
      ∃ (P1 : PassC) (Ps : List PassC), Ps.length = names.length ∧ P1.LinksS pl s ∧ (∀ P, P ∈ Ps → P.LinksS pl s) ∧ s.methodNamed? (Bundle.initS X) = some P1.m ∧
        P1.sup = firstOf top (Ps.map (·.toPassT)) ∧ PassesOn top (Ps.map (·.toPassT)) := by
  intro names X hX hn h
  match names, hn, h with
  | [], _, h =>
    obtain ⟨P, L, hm, hs⟩ := PassC.ofS_atoms (args := args) (s := s) hpl (X := X) (Y := Bundle.tN) (Bundle.fit_spec hX).1 (by decide) nx_d0 nx_d1 nx_d2 nx_d5 h
    exact ⟨P, [], rfl, L, (fun _ hP => nomatch hP), hm, Option.some.inj (hs.symm.trans htop), trivial⟩
  | Y :: r, hn, h =>
    have hY := hn Y List.mem_cons_self
    obtain ⟨P, L, hm, hs⟩ := PassC.ofS_atoms (args := args) (s := s) hpl (X := X) (Y := Y) (Bundle.fit_spec hX).1 (Bundle.fit_spec hY).2 nx_d0 nx_d1 nx_d2 nx_d5 (fun c hc => h c (List.mem_append_left _ hc))
    obtain ⟨P2, Ps, e1, L2, hL, hm2, e2, e3⟩ := Bundle.chainS (args := args) hpl htop r Y hY (fun n hq => hn n (List.mem_cons_of_mem _ hq)) (fun c hc => h c (List.mem_append_right _ hc))
    refine ⟨P, P2 :: Ps, by rw [List.length_cons, List.length_cons, e1], L, fun Z hZ => ?_, hm, Option.some.inj (hs.symm.trans hm2), e2, e3⟩
    rcases List.mem_cons.mp hZ with rfl | hZ
    · exact L2
    · exact hL Z hZ
def nx_own (own : String) (ic : Nat) (X : String) (names : List String) : List Cond :=
  Bundle.throwableAtoms ++ Bundle.throwableSAtoms ++ nx_chain X names ++
  [.methodLink own ic (Bundle.initS X), .instantiable X 6, .castable X X, .selects X Bundle.tFill0 Bundle.tFill0, .selects X Bundle.tFill Bundle.tFill,
   .lays X Bundle.tN "cause" "Ljava/lang/Throwable;", .lays X Bundle.tN "stackTrace" Bundle.steD, .lays X Bundle.tN "suppressedExceptions" Bundle.listD, .lays X Bundle.tN "detailMessage" "Ljava/lang/String;",
   .isRef (.static Bundle.tN "UNASSIGNED_STACK" Bundle.steD), .isRef (.static Bundle.tN "SUPPRESSED_SENTINEL" Bundle.listD),
   .fieldLink Bundle.tN 198 Bundle.tN "backtrace" "Ljava/lang/Object;", .lays Bundle.tN Bundle.tN "backtrace" "Ljava/lang/Object;", .lays X Bundle.tN "backtrace" "Ljava/lang/Object;"]
def nx_atS (own : String) (ic : Nat) (X : String) (names : List String) : List Cond := (nx_own own ic X names).filter vx_no
variable {p : Program} {l : Launch} {e : Env} {R : Room} {s : State} {m₀ : MethodId} {args : Array Value} {below : List Frame} {meth : Method} {c : Code} {W : State} {locs : List Loc} {cells slots : Nat}
set_option maxHeartbeats 1000000 in
theorem nx_ctorMade (X : Stand p l e R s m₀ args below meth c W locs cells slots) (hexec : p.tables.exec = Jvm.exec) (htr : e.platform.stackTraces = false) {own cls : String} {names : List String} {ic : Nat}
    (hown : s.vm.findClass own = some m₀.cls) (hcls : Bundle.fit cls = true) (hnames : ∀ n ∈ names, Bundle.fit n = true)
    (h : ∀ a ∈ nx_own own ic cls names, a.before args s = true)
    (hlocs : ∀ x ∈ locs, ∀ cell, s.heap[x.base]? = some cell → cell.vm.isStatics = false)
    {a : Addr} {cX : ClassId} {kX : Class} (hfoundX : s.vm.findClass cls = some cX) (hkX : s.vm.classes[cX]? = some kX) (hcell : W.heap[a]? = some (freshCell cX kX)) (hnew : s.heap.size ≤ a)
    {msg : Value} (hmsg : msg.isRef = true)
    {g : JFrame} (hg : g.method = m₀) (hsize : g.locals.size = c.maxLocals) {rest : List Value} (hstack : g.stack = msg :: .ref a :: .ref a :: rest)
    (hd6 : decode c.code g.pc = .ok (.invokespecial ic, 3))
    (hRframes : names.length + 3 < R.frames) (hRlocals : 2 * g.monitorRoom + ((Value.ref a :: rest).map fun v => v.category).sum + (13 * (names.length + 1) + 42) ≤ R.locals) :
    ∃ (V : State) (ce : Cell) (L : List Loc), Stand p l e R s m₀ args below meth c (V.setCell a ce) (locs ++ L) cells slots ∧ (∀ y ∈ L, y.base = a) ∧ a < V.heap.size ∧ ce.cls = cX ∧ ce.vm = .none ∧
      ∀ target, Steps p.tables e below ((V.setCell a ce).setTop { g with stack := .ref a :: rest, pc := g.pc + 3 }) target → Steps p.tables e below (W.setTop g) target := by
  have howns : e.platform.frameOwnsMonitors = true := by rw [X.admits.platform]
  have hfin : e.platform.finalization = false := by rw [X.admits.platform]
  have hpl : e.platform.magicAccessors = ({} : Platform).magicAccessors := by rw [X.admits.platform]
  have a' : ∀ x, x ∈ nx_own own ic cls names → x.holds args s none s [] = true := fun x hx => h x hx
  obtain ⟨T, Z0, L, -, Y⟩ := ThrowableC.of_atoms (args := args) howns hfin hpl (fun x hx => h x (by simp [nx_own, hx]))
  obtain ⟨Z, M, LZ, LM, hnZ⟩ := Init0T.ofS_atoms (args := args) hpl L Y (fun x hx => h x (by simp [nx_own, hx]))
  obtain ⟨P1, Ps, hlen, L1, hL, hP1m, hlink1, hlink⟩ := nx_chain_ok (args := args) hpl hnZ names cls hcls hnames (fun x hx => h x (by simp [nx_own, hx]))
  have hfound : s.vm.findClass cls = some P1.m.cls := findClass_of_methodNamed hP1m
  cases Option.some.inj (hfoundX.symm.trans hfound)
  obtain ⟨c1, kX', hc1, hk, hord, -, -, hn6⟩ := Cond.instantiable_spec (a' (.instantiable cls 6) (by simp [nx_own]))
  cases Option.some.inj (hc1.symm.trans hfound)
  cases Option.some.inj (hkX.symm.trans hk)
  have hsel0 : selectMethod e.platform s.vm P1.m.cls T.fill0 = .method T.fill0 := by
    obtain ⟨c2, r2, m2, q1, q2, q3, q4, -⟩ := Cond.selects_spec (a' (.selects cls Bundle.tFill0 Bundle.tFill0) (by simp [nx_own]))
    cases Option.some.inj (q1.symm.trans hfound)
    cases Option.some.inj (q2.symm.trans (State.methodFound?_of_named Y.fill0 (by decide)))
    cases Option.some.inj (q3.symm.trans Y.fill0)
    rw [Launch.admits_selectMethod X.admits]; exact q4
  have hselF : selectMethod e.platform s.vm P1.m.cls T.fill = .method T.fill := by
    obtain ⟨c2, r2, m2, q1, q2, q3, q4, -⟩ := Cond.selects_spec (a' (.selects cls Bundle.tFill Bundle.tFill) (by simp [nx_own]))
    cases Option.some.inj (q1.symm.trans hfound)
    cases Option.some.inj (q2.symm.trans (State.methodFound?_of_named Y.fill (by decide)))
    cases Option.some.inj (q3.symm.trans Y.fill)
    rw [Launch.admits_selectMethod X.admits]; exact q4
  obtain ⟨cellS0, hcS0, hiss⟩ := Y.statics
  obtain ⟨u0, hu0⟩ := Cond.staticRefV Y.unassigned L.unassignedStatic L.statics hcS0 hiss (a' (.isRef (.static Bundle.tN "UNASSIGNED_STACK" Bundle.steD)) (by simp [nx_own]))
  obtain ⟨sen, hsen⟩ := Cond.staticRefV Y.sentinel L.sentinelStatic L.statics hcS0 hiss (a' (.isRef (.static Bundle.tN "SUPPRESSED_SENTINEL" Bundle.listD)) (by simp [nx_own]))
  obtain ⟨ci198, i198, fB, hk198, hg198, ha198, hsB, -, hnB, htB, hffB⟩ := Cond.ownField (t := .object "java/lang/Object") Y.found L.cls (by decide +kernel) (a' (.fieldLink Bundle.tN 198 Bundle.tN "backtrace" "Ljava/lang/Object;") (by simp [nx_own])) (a' (.lays Bundle.tN Bundle.tN "backtrace" "Ljava/lang/Object;") (by simp [nx_own])) e.platform hpl
  obtain ⟨cellS, hcS', heS, -, hkeep⟩ := X.same.2.2.2.2.2 T.aS cellS0 hcS0
  have hcellS : W.heap[T.aS]? = some cellS := hcS'
  have hout' : ∀ i, (⟨T.aS, i⟩ : Loc) ∉ locs := fun i hmem => by
    have := hlocs _ hmem cellS0 hcS0
    rw [hiss] at this; cases this
  have hknownS : cellS.vm ≠ .unknown := by
    rw [heS]; intro hu
    rw [show cellS0.vm = .unknown from hu] at hiss
    cases hiss
  have hneS : T.aS ≠ a := Nat.ne_of_lt (Nat.lt_of_lt_of_le (Array.getElem?_eq_some_iff.mp hcS0).1 hnew)
  obtain ⟨iM, hffM⟩ := Y.msg
  obtain ⟨tyC, dC, hdC, hdnC⟩ := Cond.laysAt hfound hk Y.cause (a' (.lays cls Bundle.tN "cause" "Ljava/lang/Throwable;") (by simp [nx_own]))
  obtain ⟨tyS, dS, hdS, hdnS⟩ := Cond.laysAt hfound hk Y.stack (a' (.lays cls Bundle.tN "stackTrace" Bundle.steD) (by simp [nx_own]))
  obtain ⟨tyP, dP, hdP, hdnP⟩ := Cond.laysAt hfound hk Y.supp (a' (.lays cls Bundle.tN "suppressedExceptions" Bundle.listD) (by simp [nx_own]))
  obtain ⟨tyM, dM, hdM, hdnM⟩ := Cond.laysAt hfound hk hffM (a' (.lays cls Bundle.tN "detailMessage" "Ljava/lang/String;") (by simp [nx_own]))
  obtain ⟨tyB, dB, hdB, hdnB⟩ := Cond.laysAt hfound hk hffB (a' (.lays cls Bundle.tN "backtrace" "Ljava/lang/Object;") (by simp [nx_own]))
  have bC := Cond.laysApart hdB hdC hdnB hdnC (by rw [hnB, Y.causeName]; decide)
  have bS := Cond.laysApart hdB hdS hdnB hdnS (by rw [hnB, Y.stackName]; decide)
  have bP := Cond.laysApart hdB hdP hdnB hdnP (by rw [hnB, Y.suppName]; decide)
  have hskip : SkipFacts T e.platform s (fun u => u) u0 ((preparedCellV T.toThrowableT (freshCell P1.m.cls kX) a u0 sen).withEntry W.cur) :=
    ⟨{ ci198 := ci198, i198 := i198, fBack := fB }, ⟨hk198, hg198, ha198, hsB⟩, by
      have := fresh_default (c := P1.m.cls) tyB
      rw [htB] at this
      simpa [preparedCellV, Cell.setSlot, Cell.withEntry, Array.getElem?_setIfInBounds, bC, bS, bP, bC.symm, bS.symm, bP.symm, defaultValue] using this, fun _ _ => rfl⟩
  obtain ⟨tm, methC, cdC, kC, vm₁, hnC, -, -, -, -, -, -, -, hW₁, st1⟩ := Steps.initColdS (tb := p.tables) (e := e) (below := below) (s := s) (U := W) X.here hexec X.warmed hpl hown (t := Bundle.initS cls) rfl rfl (Bundle.fit_spec hcls).2
    (a' (.methodLink own ic (Bundle.initS cls)) (by simp [nx_own])) (h (.instanceMethod (Bundle.initS cls)) (by cases names <;> simp [nx_own, nx_chain, Bundle.chainSAtoms, Bundle.passSAtoms])) (bytes := nx_six) (maxL := 2) (h (.code (Bundle.initS cls) nx_six 2 none) (by cases names <;> simp [nx_own, nx_chain, Bundle.chainSAtoms, Bundle.passSAtoms]))
    (f := g) hg (a := a) (msg := msg) (rest := .ref a :: rest) hstack hd6
  cases Option.some.inj (hnC.symm.trans hP1m)
  have X₁ := X.noted hW₁
  obtain ⟨vm₂, X₂, st2⟩ := X₁.ctorMessageOffV hexec (g := { g with stack := .ref a :: rest }) hg hsize T L Z LZ M LM (P1 :: Ps)
    (fun P hP => by rcases List.mem_cons.mp hP with rfl | hP; exact L1; exact hL P hP) ⟨hlink1, hlink⟩ (u0 := u0) (sen := sen) (self := a) hmsg (cell := freshCell P1.m.cls kX) (cellS := cellS)
    hcell (fun _ => by simp) (by simp) rfl rfl hsel0 hselF hcellS hneS hknownS (by rw [hkeep _ (hout' _)]; exact hu0) (by rw [hkeep _ (hout' _)]; exact hsen)
    (Takes.of_laid hk hord tyC (by rw [Y.causeType]; rfl)) (Takes.of_laid hk hord tyS (by rw [Y.stackType]; exact fits_refV_array _ u0)) (Takes.of_laid hk hord tyP (by rw [Y.suppType]; exact fits_refV_object _ sen))
    (Takes.of_laid hk hord tyM (by rw [Y.msgType]; exact fits_refV_object _ ⟨msg, hmsg⟩)) Y.objLocals hskip htr [] hd6
    (by simp only [List.length_cons, hlen]; omega) (by simp only [List.length_cons, hlen]; exact hRlocals)
  have hlt : a < ((W.setVm vm₁).setVm vm₂).heap.size := (Array.getElem?_eq_some_iff.mp hcell).1
  refine ⟨(W.setVm vm₁).setVm vm₂, _, _, X₂, fun y hy => ?_, hlt, rfl, rfl, fun target hwalk => st1 _ (fun acts => ?_)⟩
  · simp only [List.mem_cons, List.not_mem_nil, or_false] at hy
    rcases hy with rfl | rfl | rfl | rfl | rfl <;> rfl
  · rw [doInvoke_state]
    exact st2 _ hwalk
end NXA
section NXB
variable {p : Program} {l : Launch} {e : Env} {R : Room} {s : State} {m : MethodId} {args : Array Value} {below : List Frame} {meth : Method} {c : Code} {H : Heap} {locs : List Loc} {cells slots : Nat} {Q : State → Prop}
variable {ls : Array Slot} {rest : List Value} {D : va_G} {cl : List vw_C} {tys : List (ClassId × FieldType)} {ws : va_W}
theorem nx_make {cc : ByteArray} {pc : Nat} (hexec : p.tables.exec = Jvm.exec) (hb : c.code = cc) (hl : l.stackTraces = false) {own cls text : String} {names : List String} {ik is ic sa : Nat} {A : Nat → Prop}
    (hown : s.vm.findClass own = some m.cls) (hcls : Bundle.fit cls = true) (hnames : ∀ n ∈ names, Bundle.fit n = true)
    (hk : (Cond.classLink own ik cls).before args s = true) (hini : (Cond.initialized cls).before args s = true) (hstr : vk_R own is text sa s) (hat : ∀ w ∈ nx_atS own ic cls names, w.before args s = true)
    (hgood : ∀ w ∈ Cond.classLink own ik cls :: Cond.initialized cls :: nx_atS own ic cls names, vx_ot w = true)
    (hU : vx_Zq Bundle.tN "UNASSIGNED_STACK" Bundle.steD A s s.heap) (hN : vx_Zq Bundle.tN "SUPPRESSED_SENTINEL" Bundle.listD A s s.heap) (hS : va_S A s.heap H locs) (hsize : ls.size = c.maxLocals)
    (d0 : decode cc pc = .ok (.new ik, 3)) (d3 : decode cc (pc + 3) = .ok (.dup, 1)) (d4 : decode cc (pc + 4) = .ok (.ldc is, 2)) (d6 : decode cc (pc + 6) = .ok (.invokespecial ic, 3))
    (hRframes : names.length + 3 < R.frames) (hRlocals : (rest.map fun v => v.category).sum + (13 * (names.length + 1) + 43) ≤ R.locals) (hRcells : cells + 1 ≤ R.cells) (hRslots : slots + 6 ≤ R.slots)
    (kk : ∀ (q : Nat) (H1 : Heap) (ce : Cell), H1[q]? = some ce → ce.vm = .none → s.vm.findClass cls = some ce.cls → H.size ≤ H1.size → (∀ x : Nat, x < H.size → H1[x]? = H[x]?) → W p l e R s m args below meth c H1 locs (cells + 1) (slots + 6) Q (F0 m (pc + 9) ls (.ref q :: rest))) :
    W p l e R s m args below meth c H locs cells slots Q (F0 m pc ls rest) := by
  intro T hT X
  subst hT
  have htr : e.platform.stackTraces = false := (show e.platform.stackTraces = l.stackTraces by rw [X.admits.platform]).trans hl
  have Y := vx_rebase X (R' := { frames := R.frames, locals := R.locals, cells := 1, slots := 6 }) (Nat.le_refl _) (Nat.le_refl _) hRcells hRslots
  obtain ⟨s', hA'⟩ : ∃ z, z = (T.setVm s.vm).setFrames (.invoking m args :: below) := ⟨_, rfl⟩
  rw [← hA'] at Y
  have hvm : s'.vm = s.vm := by rw [hA']; rfl
  have hhp : s'.heap = T.heap := by rw [hA']; rfl
  have hW0 : s.WarmedH s'.vm := by rw [hvm]; exact State.WarmedH.refl s
  have hat' : ∀ w ∈ nx_atS own ic cls names, w.before args s' = true := fun w hw => vx_ot_at hW0 hvm.symm (hgood w (List.mem_cons_of_mem _ (List.mem_cons_of_mem _ hw))) (hat w hw)
  have hk' : (Cond.classLink own ik cls).before args s' = true := vx_ot_at hW0 hvm.symm (hgood _ List.mem_cons_self) hk
  have hini' : (Cond.initialized cls).before args s' = true := vx_ot_at hW0 hvm.symm (hgood _ (List.mem_cons_of_mem _ List.mem_cons_self)) hini
  have hU' : vx_Zq Bundle.tN "UNASSIGNED_STACK" Bundle.steD A s' s'.heap := by rw [hhp]; exact vx_Zq.moved hW0.alike (hU.kept hS.2.1)
  have hN' : vx_Zq Bundle.tN "SUPPRESSED_SENTINEL" Bundle.listD A s' s'.heap := by rw [hhp]; exact vx_Zq.moved hW0.alike (hN.kept hS.2.1)
  have h : ∀ w ∈ nx_own own ic cls names, w.before args s' = true := vx_own hat' (vx_isRefq hU'.1) (vx_isRefq hN'.1) hU'.2.word hN'.2.word
  have hown' : s'.vm.findClass own = some m.cls := by rw [hvm]; exact hown
  have hins : (Cond.instantiable cls 6).before args s' = true := h _ (by simp [nx_own])
  obtain ⟨vm₁, cX, kX, hfX, hkX, -, -, X₁, st1⟩ := Y.newCold hexec (own := own) (C := cls) (index := ik) (n := 6) hown' hk' hins hini'
    (g := F0 m pc ls rest) rfl (by rw [hb]; exact d0) (Nat.le_refl _) (Nat.le_refl _)
  generalize hT1 : (T.setVm vm₁).pushCell { cls := cX, slots := kX.instanceTypes.map defaultValue, vm := .none } = T1 at X₁ st1
  have hcat : (Value.ref T.heap.size).category = 1 := rfl
  have hcellA : T1.heap[T.heap.size]? = some (freshCell cX kX) := by rw [← hT1]; exact State.heap_pushCell_size _ _
  have d3' : decode c.code (pc + 3) = .ok (.dup, 1) := by rw [hb]; exact d3
  have d4' : decode c.code (pc + 4) = .ok (.ldc is, 2) := by rw [hb]; exact d4
  have hstr' : vk_R own is text sa s' := vk_R.warm hW0 hstr
  obtain ⟨V, ce, L, Z, hL, hlt, hcl9, hvm9, st⟩ := nx_ctorMade X₁ hexec htr (own := own) (cls := cls) (names := names) (ic := ic) hown' hcls hnames h (fun x hx => nomatch hx) hfX hkX hcellA (by rw [hhp]; exact Nat.le_refl _) (msg := .ref sa) rfl
    (g := { method := m, pc := pc + 6, locals := ls, stack := .ref sa :: .ref T.heap.size :: .ref T.heap.size :: rest, locked := none }) rfl hsize (rest := rest) rfl
    (by rw [hb]; exact d6) hRframes (by simp only [List.map_cons, List.sum_cons, hcat]; omega)
  have Z0 := Stand.forget (locs := []) Z (fun y hy => by rw [hL y hy, hhp]; exact Nat.le_refl _)
  obtain ⟨f1, f2⟩ := vx_frame Z0.same
  rw [hhp] at f1 f2
  have hh : (V.setCell T.heap.size ce).heap[T.heap.size]? = some ce := heapAt_setCell_self (s := V) ce hlt
  subst hA'
  have X5 := vx_back9 X Y Z0
  have X6 : Stand p l e R s m args below meth c (V.setCell T.heap.size ce) locs (cells + 1) (slots + 6) := { X5 with same := X5.same.mono (by omega) (by omega) }
  obtain ⟨t, a1, b1⟩ := kk T.heap.size (V.setCell T.heap.size ce).heap ce hh hvm9 (by rw [hcl9]; rw [hvm] at hfX; exact hfX) f1 (fun q h1 => f2 q h1 (fun z hz => nomatch hz)) _ rfl X6
  refine ⟨t, st1 _ ?_, b1⟩
  show Steps p.tables e below (T1.setTop { method := m, pc := pc + 3, locals := ls, stack := .ref T.heap.size :: rest, locked := none }) _
  jvm_step X₁.here [X₁.here.top, hexec, d3', Value.category]
  exact X₁.ldcString hexec (own := own) (text := text) (index := is) (a := sa) hown' hstr'.1 hstr'.2
    (g := { method := m, pc := pc + 4, locals := ls, stack := .ref T.heap.size :: .ref T.heap.size :: rest, locked := none }) rfl d4' _ (st _ a1)
theorem nx_makeW {cc : ByteArray} {pc : Nat} (hexec : p.tables.exec = Jvm.exec) (hb : c.code = cc) (hl : l.stackTraces = false) {own cls text : String} {names : List String} {ik is ic sa : Nat} {A : Nat → Prop}
    (hown : s.vm.findClass own = some m.cls) (hcls : Bundle.fit cls = true) (hnames : ∀ n ∈ names, Bundle.fit n = true)
    (hk : (Cond.classLink own ik cls).before args s = true) (hini : (Cond.initialized cls).before args s = true) (hstr : vk_R own is text sa s) (hat : ∀ w ∈ nx_atS own ic cls names, w.before args s = true)
    (hgood : ∀ w ∈ Cond.classLink own ik cls :: Cond.initialized cls :: nx_atS own ic cls names, vx_ot w = true)
    (hU : vx_Zq Bundle.tN "UNASSIGNED_STACK" Bundle.steD A s s.heap) (hN : vx_Zq Bundle.tN "SUPPRESSED_SENTINEL" Bundle.listD A s s.heap) (hS : va_S A s.heap H locs) (hsize : ls.size = c.maxLocals)
    (d0 : decode cc pc = .ok (.new ik, 3)) (d3 : decode cc (pc + 3) = .ok (.dup, 1)) (d4 : decode cc (pc + 4) = .ok (.ldc_w is, 3)) (d6 : decode cc (pc + 7) = .ok (.invokespecial ic, 3))
    (hRframes : names.length + 3 < R.frames) (hRlocals : (rest.map fun v => v.category).sum + (13 * (names.length + 1) + 43) ≤ R.locals) (hRcells : cells + 1 ≤ R.cells) (hRslots : slots + 6 ≤ R.slots)
    (kk : ∀ (q : Nat) (H1 : Heap) (ce : Cell), H1[q]? = some ce → ce.vm = .none → s.vm.findClass cls = some ce.cls → H.size ≤ H1.size → (∀ x : Nat, x < H.size → H1[x]? = H[x]?) → W p l e R s m args below meth c H1 locs (cells + 1) (slots + 6) Q (F0 m (pc + 10) ls (.ref q :: rest))) :
    W p l e R s m args below meth c H locs cells slots Q (F0 m pc ls rest) := by
  intro T hT X
  subst hT
  have htr : e.platform.stackTraces = false := (show e.platform.stackTraces = l.stackTraces by rw [X.admits.platform]).trans hl
  have Y := vx_rebase X (R' := { frames := R.frames, locals := R.locals, cells := 1, slots := 6 }) (Nat.le_refl _) (Nat.le_refl _) hRcells hRslots
  obtain ⟨s', hA'⟩ : ∃ z, z = (T.setVm s.vm).setFrames (.invoking m args :: below) := ⟨_, rfl⟩
  rw [← hA'] at Y
  have hvm : s'.vm = s.vm := by rw [hA']; rfl
  have hhp : s'.heap = T.heap := by rw [hA']; rfl
  have hW0 : s.WarmedH s'.vm := by rw [hvm]; exact State.WarmedH.refl s
  have hat' : ∀ w ∈ nx_atS own ic cls names, w.before args s' = true := fun w hw => vx_ot_at hW0 hvm.symm (hgood w (List.mem_cons_of_mem _ (List.mem_cons_of_mem _ hw))) (hat w hw)
  have hk' : (Cond.classLink own ik cls).before args s' = true := vx_ot_at hW0 hvm.symm (hgood _ List.mem_cons_self) hk
  have hini' : (Cond.initialized cls).before args s' = true := vx_ot_at hW0 hvm.symm (hgood _ (List.mem_cons_of_mem _ List.mem_cons_self)) hini
  have hU' : vx_Zq Bundle.tN "UNASSIGNED_STACK" Bundle.steD A s' s'.heap := by rw [hhp]; exact vx_Zq.moved hW0.alike (hU.kept hS.2.1)
  have hN' : vx_Zq Bundle.tN "SUPPRESSED_SENTINEL" Bundle.listD A s' s'.heap := by rw [hhp]; exact vx_Zq.moved hW0.alike (hN.kept hS.2.1)
  have h : ∀ w ∈ nx_own own ic cls names, w.before args s' = true := vx_own hat' (vx_isRefq hU'.1) (vx_isRefq hN'.1) hU'.2.word hN'.2.word
  have hown' : s'.vm.findClass own = some m.cls := by rw [hvm]; exact hown
  have hins : (Cond.instantiable cls 6).before args s' = true := h _ (by simp [nx_own])
  obtain ⟨vm₁, cX, kX, hfX, hkX, -, -, X₁, st1⟩ := Y.newCold hexec (own := own) (C := cls) (index := ik) (n := 6) hown' hk' hins hini'
    (g := F0 m pc ls rest) rfl (by rw [hb]; exact d0) (Nat.le_refl _) (Nat.le_refl _)
  generalize hT1 : (T.setVm vm₁).pushCell { cls := cX, slots := kX.instanceTypes.map defaultValue, vm := .none } = T1 at X₁ st1
  have hcat : (Value.ref T.heap.size).category = 1 := rfl
  have hcellA : T1.heap[T.heap.size]? = some (freshCell cX kX) := by rw [← hT1]; exact State.heap_pushCell_size _ _
  have d3' : decode c.code (pc + 3) = .ok (.dup, 1) := by rw [hb]; exact d3
  have d4' : decode c.code (pc + 4) = .ok (.ldc_w is, 3) := by rw [hb]; exact d4
  have hstr' : vk_R own is text sa s' := vk_R.warm hW0 hstr
  obtain ⟨V, ce, L, Z, hL, hlt, hcl9, hvm9, st⟩ := nx_ctorMade X₁ hexec htr (own := own) (cls := cls) (names := names) (ic := ic) hown' hcls hnames h (fun x hx => nomatch hx) hfX hkX hcellA (by rw [hhp]; exact Nat.le_refl _) (msg := .ref sa) rfl
    (g := { method := m, pc := pc + 7, locals := ls, stack := .ref sa :: .ref T.heap.size :: .ref T.heap.size :: rest, locked := none }) rfl hsize (rest := rest) rfl
    (by rw [hb]; exact d6) hRframes (by simp only [List.map_cons, List.sum_cons, hcat]; omega)
  have Z0 := Stand.forget (locs := []) Z (fun y hy => by rw [hL y hy, hhp]; exact Nat.le_refl _)
  obtain ⟨f1, f2⟩ := vx_frame Z0.same
  rw [hhp] at f1 f2
  have hh : (V.setCell T.heap.size ce).heap[T.heap.size]? = some ce := heapAt_setCell_self (s := V) ce hlt
  subst hA'
  have X5 := vx_back9 X Y Z0
  have X6 : Stand p l e R s m args below meth c (V.setCell T.heap.size ce) locs (cells + 1) (slots + 6) := { X5 with same := X5.same.mono (by omega) (by omega) }
  obtain ⟨t, a1, b1⟩ := kk T.heap.size (V.setCell T.heap.size ce).heap ce hh hvm9 (by rw [hcl9]; rw [hvm] at hfX; exact hfX) f1 (fun q h1 => f2 q h1 (fun z hz => nomatch hz)) _ rfl X6
  refine ⟨t, st1 _ ?_, b1⟩
  show Steps p.tables e below (T1.setTop { method := m, pc := pc + 3, locals := ls, stack := .ref T.heap.size :: rest, locked := none }) _
  jvm_step X₁.here [X₁.here.top, hexec, d3', Value.category]
  exact X₁.ldcStringW hexec (own := own) (text := text) (index := is) (a := sa) hown' hstr'.1 hstr'.2
    (g := { method := m, pc := pc + 4, locals := ls, stack := .ref T.heap.size :: .ref T.heap.size :: rest, locked := none }) rfl d4' _ (st _ a1)
end NXB
end
section
/-! ===== BEGIN printed: names, fields, word lists, decode rows ===== -/
def RX0 : String := "KioskReel$Device"
def TX0 : u_T := fun k => match k with
  | 0 => ("KioskReel$Device", "queue", "LKioskReel$PlayerRow;", true)
  | _ => ("KioskReel$Device", "owner", "I", false)
def tyX0 : Nat → FieldType := fun k => match k with
  | 0 => .object "KioskReel$PlayerRow"
  | _ => .int
abbrev wsX00 : List Cond := u_ws RX0 TX0 2
theorem nmX0 : ∀ a, a < 2 → ∀ b, b < 2 → a ≠ b → (TX0 a).2.1 ≠ (TX0 b).2.1 := by decide +kernel
theorem tyX0_ok : ∀ k, k < 2 → parseFieldDescriptor (TX0 k).2.2.1 = some (tyX0 k) := by decide +kernel
abbrev cX0_init : ByteArray := prog_2_method_1_code
def yX0_init : MethodName := ⟨RX0, "<init>", "()V"⟩
def RX1 : String := "KioskReel$Kiosk"
def TX1 : u_T := fun k => match k with
  | 0 => ("KioskReel$Kiosk", "playing", "LKioskReel$PlayerRow;", true)
  | 1 => ("KioskReel$Kiosk", "frozen", "Z", false)
  | 2 => ("KioskReel$Kiosk", "out", "Z", false)
  | 3 => ("KioskReel$Kiosk", "frozenTicks", "I", false)
  | _ => ("KioskReel$Kiosk", "lastSlide", "I", false)
def tyX1 : Nat → FieldType := fun k => match k with
  | 0 => .object "KioskReel$PlayerRow"
  | 1 => .boolean
  | 2 => .boolean
  | 3 => .int
  | _ => .int
abbrev wsX10 : List Cond := u_ws RX1 TX1 5
theorem nmX1 : ∀ a, a < 5 → ∀ b, b < 5 → a ≠ b → (TX1 a).2.1 ≠ (TX1 b).2.1 := by decide +kernel
theorem tyX1_ok : ∀ k, k < 5 → parseFieldDescriptor (TX1 k).2.2.1 = some (tyX1 k) := by decide +kernel
abbrev cX1_init : ByteArray := prog_3_method_1_code
def yX1_init : MethodName := ⟨RX1, "<init>", "()V"⟩
def RX2 : String := "KioskReel$Outcome"
def TX2 : u_T := fun k => match k with
  | _ => ("", "", "", false)
def tyX2 : Nat → FieldType := fun k => match k with
  | _ => .int
abbrev wsX20 : List Cond := u_ws RX2 TX2 0
theorem nmX2 : ∀ a, a < 0 → ∀ b, b < 0 → a ≠ b → (TX2 a).2.1 ≠ (TX2 b).2.1 := by decide +kernel
theorem tyX2_ok : ∀ k, k < 0 → parseFieldDescriptor (TX2 k).2.2.1 = some (tyX2 k) := by decide +kernel
def RX3 : String := "KioskReel$Player"
def TX3 : u_T := fun k => match k with
  | 0 => ("KioskReel$Player", "pile", "[LKioskReel$Reel;", true)
  | 1 => ("KioskReel$Player", "ahead", "[I", true)
  | 2 => ("KioskReel$Player", "height", "I", false)
  | 3 => ("KioskReel$Player", "started", "Z", false)
  | 4 => ("KioskReel$Player", "firstList", "I", false)
  | 5 => ("KioskReel$Player", "place", "I", false)
  | 6 => ("KioskReel$Player", "counter", "I", false)
  | 7 => ("KioskReel$Player", "ticksToWait", "I", false)
  | _ => ("KioskReel$Player", "awaitedDevice", "I", false)
def tyX3 : Nat → FieldType := fun k => match k with
  | 0 => .array (.object "KioskReel$Reel")
  | 1 => .array .int
  | 2 => .int
  | 3 => .boolean
  | 4 => .int
  | 5 => .int
  | 6 => .int
  | 7 => .int
  | _ => .int
abbrev wsX30 : List Cond := u_ws RX3 TX3 9
theorem nmX3 : ∀ a, a < 9 → ∀ b, b < 9 → a ≠ b → (TX3 a).2.1 ≠ (TX3 b).2.1 := by decide +kernel
theorem tyX3_ok : ∀ k, k < 9 → parseFieldDescriptor (TX3 k).2.2.1 = some (tyX3 k) := by decide +kernel
abbrev cX3_init : ByteArray := prog_5_method_1_code
def yX3_init : MethodName := ⟨RX3, "<init>", "()V"⟩
abbrev cX3_begin : ByteArray := prog_5_method_2_code
def yX3_begin : MethodName := ⟨RX3, "begin", "(ILKioskReel$Reel;)V"⟩
abbrev cX3_beginPile : ByteArray := prog_5_method_3_code
def yX3_beginPile : MethodName := ⟨RX3, "beginPile", "(LKioskReel$Reel;)V"⟩
abbrev cX3_putOnPile : ByteArray := prog_5_method_4_code
def yX3_putOnPile : MethodName := ⟨RX3, "putOnPile", "(LKioskReel$Reel;)V"⟩
abbrev cX3_takeEndedFromPile : ByteArray := prog_5_method_5_code
def yX3_takeEndedFromPile : MethodName := ⟨RX3, "takeEndedFromPile", "()V"⟩
abbrev cX3_isAtEnd : ByteArray := prog_5_method_6_code
def yX3_isAtEnd : MethodName := ⟨RX3, "isAtEnd", "()Z"⟩
abbrev cX3_lineAhead : ByteArray := prog_5_method_7_code
def yX3_lineAhead : MethodName := ⟨RX3, "lineAhead", "()I"⟩
abbrev cX3_goOnAt : ByteArray := prog_5_method_8_code
def yX3_goOnAt : MethodName := ⟨RX3, "goOnAt", "(I)V"⟩
def RX4 : String := "KioskReel$PlayerRow"
def TX4 : u_T := fun k => match k with
  | 0 => ("KioskReel$PlayerRow", "members", "[I", true)
  | _ => ("KioskReel$PlayerRow", "size", "I", false)
def tyX4 : Nat → FieldType := fun k => match k with
  | 0 => .array .int
  | _ => .int
abbrev wsX40 : List Cond := u_ws RX4 TX4 2
theorem nmX4 : ∀ a, a < 2 → ∀ b, b < 2 → a ≠ b → (TX4 a).2.1 ≠ (TX4 b).2.1 := by decide +kernel
theorem tyX4_ok : ∀ k, k < 2 → parseFieldDescriptor (TX4 k).2.2.1 = some (tyX4 k) := by decide +kernel
abbrev cX4_init : ByteArray := prog_6_method_1_code
def yX4_init : MethodName := ⟨RX4, "<init>", "()V"⟩
abbrev cX4_addLast : ByteArray := prog_6_method_2_code
def yX4_addLast : MethodName := ⟨RX4, "addLast", "(I)V"⟩
abbrev cX4_addFirst : ByteArray := prog_6_method_3_code
def yX4_addFirst : MethodName := ⟨RX4, "addFirst", "(I)V"⟩
abbrev cX4_remove : ByteArray := prog_6_method_4_code
def yX4_remove : MethodName := ⟨RX4, "remove", "(I)V"⟩
abbrev cX4_timesIn : ByteArray := prog_6_method_5_code
def yX4_timesIn : MethodName := ⟨RX4, "timesIn", "(I)I"⟩
def RX5 : String := "KioskReel$Reel"
def TX5 : u_T := fun k => match k with
  | 0 => ("KioskReel$Reel", "kinds", "[C", true)
  | 1 => ("KioskReel$Reel", "numbers", "[I", true)
  | _ => ("KioskReel$Reel", "size", "I", false)
def tyX5 : Nat → FieldType := fun k => match k with
  | 0 => .array .char
  | 1 => .array .int
  | _ => .int
abbrev wsX50 : List Cond := u_ws RX5 TX5 3
theorem nmX5 : ∀ a, a < 3 → ∀ b, b < 3 → a ≠ b → (TX5 a).2.1 ≠ (TX5 b).2.1 := by decide +kernel
theorem tyX5_ok : ∀ k, k < 3 → parseFieldDescriptor (TX5 k).2.2.1 = some (tyX5 k) := by decide +kernel
abbrev cX5_init : ByteArray := prog_7_method_1_code
def yX5_init : MethodName := ⟨RX5, "<init>", "()V"⟩
abbrev cX5_insertAt : ByteArray := prog_7_method_2_code
def yX5_insertAt : MethodName := ⟨RX5, "insertAt", "(ICI)V"⟩
abbrev cX5_removeAt : ByteArray := prog_7_method_3_code
def yX5_removeAt : MethodName := ⟨RX5, "removeAt", "(I)V"⟩
abbrev cX5_linesOf : ByteArray := prog_7_method_4_code
def yX5_linesOf : MethodName := ⟨RX5, "linesOf", "(C)I"⟩
abbrev cX5_copyFrom : ByteArray := prog_7_method_5_code
def yX5_copyFrom : MethodName := ⟨RX5, "copyFrom", "(LKioskReel$Reel;)V"⟩
def RX6 : String := "KioskReel$Visitor"
def TX6 : u_T := fun k => match k with
  | 0 => ("KioskReel$Visitor", "timesSeen", "[I", true)
  | 1 => ("KioskReel$Visitor", "timesAsked", "[I", true)
  | 2 => ("KioskReel$Visitor", "wants", "[Z", true)
  | _ => ("KioskReel$Visitor", "place", "I", false)
def tyX6 : Nat → FieldType := fun k => match k with
  | 0 => .array .int
  | 1 => .array .int
  | 2 => .array .boolean
  | _ => .int
abbrev wsX60 : List Cond := u_ws RX6 TX6 4
theorem nmX6 : ∀ a, a < 4 → ∀ b, b < 4 → a ≠ b → (TX6 a).2.1 ≠ (TX6 b).2.1 := by decide +kernel
theorem tyX6_ok : ∀ k, k < 4 → parseFieldDescriptor (TX6 k).2.2.1 = some (tyX6 k) := by decide +kernel
abbrev cX6_init : ByteArray := prog_8_method_1_code
def yX6_init : MethodName := ⟨RX6, "<init>", "()V"⟩
abbrev cX6_wouldSee : ByteArray := prog_8_method_2_code
def yX6_wouldSee : MethodName := ⟨RX6, "wouldSee", "(I)Z"⟩
abbrev cX6_see : ByteArray := prog_8_method_3_code
def yX6_see : MethodName := ⟨RX6, "see", "(I)V"⟩
def RX7 : String := "KioskReel"
def TX7 : u_T := fun k => match k with
  | 0 => ("KioskReel", "reels", "[LKioskReel$Reel;", true)
  | 1 => ("KioskReel", "kiosks", "[LKioskReel$Kiosk;", true)
  | 2 => ("KioskReel", "players", "[LKioskReel$Player;", true)
  | 3 => ("KioskReel", "devices", "[LKioskReel$Device;", true)
  | 4 => ("KioskReel", "visitors", "[LKioskReel$Visitor;", true)
  | 5 => ("KioskReel", "reelCount", "I", false)
  | 6 => ("KioskReel", "kioskCount", "I", false)
  | 7 => ("KioskReel", "visitorCount", "I", false)
  | _ => ("KioskReel", "linesDone", "J", false)
def tyX7 : Nat → FieldType := fun k => match k with
  | 0 => .array (.object "KioskReel$Reel")
  | 1 => .array (.object "KioskReel$Kiosk")
  | 2 => .array (.object "KioskReel$Player")
  | 3 => .array (.object "KioskReel$Device")
  | 4 => .array (.object "KioskReel$Visitor")
  | 5 => .int
  | 6 => .int
  | 7 => .int
  | _ => .long
abbrev wsX70 : List Cond := u_ws RX7 TX7 9
theorem nmX7 : ∀ a, a < 9 → ∀ b, b < 9 → a ≠ b → (TX7 a).2.1 ≠ (TX7 b).2.1 := by decide +kernel
theorem tyX7_ok : ∀ k, k < 9 → parseFieldDescriptor (TX7 k).2.2.1 = some (tyX7 k) := by decide +kernel
abbrev cX7_init : ByteArray := prog_1_method_1_code
def yX7_init : MethodName := ⟨RX7, "<init>", "()V"⟩
abbrev cX7_list : ByteArray := prog_1_method_2_code
def yX7_list : MethodName := ⟨RX7, "list", "()I"⟩
abbrev cX7_line : ByteArray := prog_1_method_3_code
def yX7_line : MethodName := ⟨RX7, "line", "(IICI)I"⟩
abbrev cX7_cut : ByteArray := prog_1_method_4_code
def yX7_cut : MethodName := ⟨RX7, "cut", "(II)C"⟩
abbrev cX7_lines : ByteArray := prog_1_method_5_code
def yX7_lines : MethodName := ⟨RX7, "lines", "(IC)I"⟩
abbrev cX7_kiosk : ByteArray := prog_1_method_6_code
def yX7_kiosk : MethodName := ⟨RX7, "kiosk", "()I"⟩
abbrev cX7_start : ByteArray := prog_1_method_7_code
def yX7_start : MethodName := ⟨RX7, "start", "(II)I"⟩
abbrev cX7_stop : ByteArray := prog_1_method_8_code
def yX7_stop : MethodName := ⟨RX7, "stop", "(I)I"⟩
abbrev cX7_freeze : ByteArray := prog_1_method_9_code
def yX7_freeze : MethodName := ⟨RX7, "freeze", "(I)Z"⟩
abbrev cX7_thaw : ByteArray := prog_1_method_10_code
def yX7_thaw : MethodName := ⟨RX7, "thaw", "(I)I"⟩
abbrev cX7_state : ByteArray := prog_1_method_11_code
def yX7_state : MethodName := ⟨RX7, "state", "(I)C"⟩
abbrev cX7_plays : ByteArray := prog_1_method_12_code
def yX7_plays : MethodName := ⟨RX7, "plays", "(I)I"⟩
abbrev cX7_playerAt : ByteArray := prog_1_method_13_code
def yX7_playerAt : MethodName := ⟨RX7, "playerAt", "(II)I"⟩
abbrev cX7_next : ByteArray := prog_1_method_14_code
def yX7_next : MethodName := ⟨RX7, "next", "(I)I"⟩
abbrev cX7_count : ByteArray := prog_1_method_15_code
def yX7_count : MethodName := ⟨RX7, "count", "(I)I"⟩
abbrev cX7_waits : ByteArray := prog_1_method_16_code
def yX7_waits : MethodName := ⟨RX7, "waits", "(I)I"⟩
abbrev cX7_tick : ByteArray := prog_1_method_17_code
def yX7_tick : MethodName := ⟨RX7, "tick", "(I)I"⟩
abbrev cX7_slide : ByteArray := prog_1_method_18_code
def yX7_slide : MethodName := ⟨RX7, "slide", "(I)I"⟩
abbrev cX7_holder : ByteArray := prog_1_method_19_code
def yX7_holder : MethodName := ⟨RX7, "holder", "(I)I"⟩
abbrev cX7_queued : ByteArray := prog_1_method_20_code
def yX7_queued : MethodName := ⟨RX7, "queued", "(II)I"⟩
abbrev cX7_visitor : ByteArray := prog_1_method_21_code
def yX7_visitor : MethodName := ⟨RX7, "visitor", "()I"⟩
abbrev cX7_go : ByteArray := prog_1_method_22_code
def yX7_go : MethodName := ⟨RX7, "go", "(II)I"⟩
abbrev cX7_ask : ByteArray := prog_1_method_23_code
def yX7_ask : MethodName := ⟨RX7, "ask", "(II)Z"⟩
abbrev cX7_saw : ByteArray := prog_1_method_24_code
def yX7_saw : MethodName := ⟨RX7, "saw", "(II)I"⟩
abbrev cX7_done : ByteArray := prog_1_method_25_code
def yX7_done : MethodName := ⟨RX7, "done", "()J"⟩
abbrev cX7_heldShare : ByteArray := prog_1_method_26_code
def yX7_heldShare : MethodName := ⟨RX7, "heldShare", "()F"⟩
abbrev cX7_heldBits : ByteArray := prog_1_method_27_code
def yX7_heldBits : MethodName := ⟨RX7, "heldBits", "()I"⟩
abbrev cX7_meanSeen : ByteArray := prog_1_method_28_code
def yX7_meanSeen : MethodName := ⟨RX7, "meanSeen", "()D"⟩
abbrev cX7_isSound : ByteArray := prog_1_method_29_code
def yX7_isSound : MethodName := ⟨RX7, "isSound", "()Z"⟩
abbrev cX7_checkList : ByteArray := prog_1_method_30_code
def yX7_checkList : MethodName := ⟨RX7, "checkList", "(I)V"⟩
abbrev cX7_checkKiosk : ByteArray := prog_1_method_31_code
def yX7_checkKiosk : MethodName := ⟨RX7, "checkKiosk", "(I)V"⟩
abbrev cX7_checkPlayer : ByteArray := prog_1_method_32_code
def yX7_checkPlayer : MethodName := ⟨RX7, "checkPlayer", "(I)V"⟩
abbrev cX7_checkVisitor : ByteArray := prog_1_method_33_code
def yX7_checkVisitor : MethodName := ⟨RX7, "checkVisitor", "(I)V"⟩
abbrev cX7_checkDevice : ByteArray := prog_1_method_34_code
def yX7_checkDevice : MethodName := ⟨RX7, "checkDevice", "(I)V"⟩
abbrev cX7_checkSlide : ByteArray := prog_1_method_35_code
def yX7_checkSlide : MethodName := ⟨RX7, "checkSlide", "(I)V"⟩
abbrev cX7_checkKind : ByteArray := prog_1_method_36_code
def yX7_checkKind : MethodName := ⟨RX7, "checkKind", "(C)V"⟩
abbrev cX7_leastNumber : ByteArray := prog_1_method_37_code
def yX7_leastNumber : MethodName := ⟨RX7, "leastNumber", "(C)I"⟩
abbrev cX7_mostNumber : ByteArray := prog_1_method_38_code
def yX7_mostNumber : MethodName := ⟨RX7, "mostNumber", "(C)I"⟩
abbrev cX7_playOneTick : ByteArray := prog_1_method_39_code
def yX7_playOneTick : MethodName := ⟨RX7, "playOneTick", "()I"⟩
abbrev cX7_takeTurn : ByteArray := prog_1_method_40_code
def yX7_takeTurn : MethodName := ⟨RX7, "takeTurn", "(LKioskReel$Player;I)I"⟩
abbrev cX7_doLine : ByteArray := prog_1_method_41_code
def yX7_doLine : MethodName := ⟨RX7, "doLine", "(LKioskReel$Player;I)LKioskReel$Outcome;"⟩
abbrev cX7_obey : ByteArray := prog_1_method_42_code
def yX7_obey : MethodName := ⟨RX7, "obey", "(LKioskReel$Player;ICI)LKioskReel$Outcome;"⟩
abbrev cX7_branch : ByteArray := prog_1_method_43_code
def yX7_branch : MethodName := ⟨RX7, "branch", "(LKioskReel$Player;CI)V"⟩
abbrev cX7_hasVisitor : ByteArray := prog_1_method_44_code
def yX7_hasVisitor : MethodName := ⟨RX7, "hasVisitor", "(I)Z"⟩
abbrev cX7_show : ByteArray := prog_1_method_45_code
def yX7_show : MethodName := ⟨RX7, "show", "(II)LKioskReel$Outcome;"⟩
abbrev cX7_lease : ByteArray := prog_1_method_46_code
def yX7_lease : MethodName := ⟨RX7, "lease", "(LKioskReel$Player;II)LKioskReel$Outcome;"⟩
abbrev cX7_devicesOf : ByteArray := prog_1_method_47_code
def yX7_devicesOf : MethodName := ⟨RX7, "devicesOf", "(I)I"⟩
abbrev cX7_passOn : ByteArray := prog_1_method_48_code
def yX7_passOn : MethodName := ⟨RX7, "passOn", "(I)V"⟩
abbrev cX7_watchFrozenKiosks : ByteArray := prog_1_method_49_code
def yX7_watchFrozenKiosks : MethodName := ⟨RX7, "watchFrozenKiosks", "()V"⟩
abbrev cX7_makeOut : ByteArray := prog_1_method_50_code
def yX7_makeOut : MethodName := ⟨RX7, "makeOut", "(I)V"⟩
abbrev cX7_nearestNotOut : ByteArray := prog_1_method_51_code
def yX7_nearestNotOut : MethodName := ⟨RX7, "nearestNotOut", "(I)I"⟩
abbrev cX7_isNotOut : ByteArray := prog_1_method_52_code
def yX7_isNotOut : MethodName := ⟨RX7, "isNotOut", "(I)Z"⟩
abbrev cX7_gather : ByteArray := prog_1_method_53_code
def yX7_gather : MethodName := ⟨RX7, "gather", "(I)I"⟩
abbrev cX7_settle : ByteArray := prog_1_method_54_code
def yX7_settle : MethodName := ⟨RX7, "settle", "(II)V"⟩
abbrev cX7_leave : ByteArray := prog_1_method_55_code
def yX7_leave : MethodName := ⟨RX7, "leave", "(I)V"⟩
abbrev cX7_bitsOfShare : ByteArray := prog_1_method_56_code
def yX7_bitsOfShare : MethodName := ⟨RX7, "bitsOfShare", "(F)I"⟩
abbrev cX7_holdersAreSound : ByteArray := prog_1_method_57_code
def yX7_holdersAreSound : MethodName := ⟨RX7, "holdersAreSound", "()Z"⟩
abbrev cX7_queuesAreSound : ByteArray := prog_1_method_58_code
def yX7_queuesAreSound : MethodName := ⟨RX7, "queuesAreSound", "()Z"⟩
abbrev cX7_visitorsAreSound : ByteArray := prog_1_method_59_code
def yX7_visitorsAreSound : MethodName := ⟨RX7, "visitorsAreSound", "()Z"⟩
def RX8 : String := "KioskReelModel"
def TX8 : u_T := fun k => match k with
  | 0 => ("KioskReelModel", "many", "[I", true)
  | 1 => ("KioskReelModel", "kind", "[I", true)
  | 2 => ("KioskReelModel", "number", "[I", true)
  | 3 => ("KioskReelModel", "pileMany", "[I", true)
  | 4 => ("KioskReelModel", "pileKind", "[I", true)
  | 5 => ("KioskReelModel", "pileNumber", "[I", true)
  | 6 => ("KioskReelModel", "pileList", "[I", true)
  | 7 => ("KioskReelModel", "pileNext", "[I", true)
  | 8 => ("KioskReelModel", "hasPlayer", "[Z", true)
  | 9 => ("KioskReelModel", "isFrozen", "[Z", true)
  | 10 => ("KioskReelModel", "isOut", "[Z", true)
  | 11 => ("KioskReelModel", "depth", "[I", true)
  | 12 => ("KioskReelModel", "at", "[I", true)
  | 13 => ("KioskReelModel", "counts", "[I", true)
  | 14 => ("KioskReelModel", "ticks", "[I", true)
  | 15 => ("KioskReelModel", "wanted", "[I", true)
  | 16 => ("KioskReelModel", "frozenFor", "[I", true)
  | 17 => ("KioskReelModel", "slide", "[I", true)
  | 18 => ("KioskReelModel", "playing", "[I", true)
  | 19 => ("KioskReelModel", "playingMany", "[I", true)
  | 20 => ("KioskReelModel", "holder", "[I", true)
  | 21 => ("KioskReelModel", "queue", "[I", true)
  | 22 => ("KioskReelModel", "queueMany", "[I", true)
  | 23 => ("KioskReelModel", "saw", "[I", true)
  | 24 => ("KioskReelModel", "place", "[I", true)
  | 25 => ("KioskReelModel", "asked", "[Z", true)
  | 26 => ("KioskReelModel", "lists", "I", false)
  | 27 => ("KioskReelModel", "kiosks", "I", false)
  | 28 => ("KioskReelModel", "visitors", "I", false)
  | 29 => ("KioskReelModel", "shown", "I", false)
  | 30 => ("KioskReelModel", "thrown", "I", false)
  | _ => ("KioskReelModel", "done", "J", false)
def tyX8 : Nat → FieldType := fun k => match k with
  | 0 => .array .int
  | 1 => .array .int
  | 2 => .array .int
  | 3 => .array .int
  | 4 => .array .int
  | 5 => .array .int
  | 6 => .array .int
  | 7 => .array .int
  | 8 => .array .boolean
  | 9 => .array .boolean
  | 10 => .array .boolean
  | 11 => .array .int
  | 12 => .array .int
  | 13 => .array .int
  | 14 => .array .int
  | 15 => .array .int
  | 16 => .array .int
  | 17 => .array .int
  | 18 => .array .int
  | 19 => .array .int
  | 20 => .array .int
  | 21 => .array .int
  | 22 => .array .int
  | 23 => .array .int
  | 24 => .array .int
  | 25 => .array .boolean
  | 26 => .int
  | 27 => .int
  | 28 => .int
  | 29 => .int
  | 30 => .int
  | _ => .long
abbrev wsX80 : List Cond := u_ws RX8 TX8 32
theorem nmX8 : ∀ a, a < 32 → ∀ b, b < 32 → a ≠ b → (TX8 a).2.1 ≠ (TX8 b).2.1 := by decide +kernel
theorem tyX8_ok : ∀ k, k < 32 → parseFieldDescriptor (TX8 k).2.2.1 = some (tyX8 k) := by decide +kernel
abbrev cX8_init : ByteArray := prog_10_method_1_code
def yX8_init : MethodName := ⟨RX8, "<init>", "()V"⟩
abbrev cX8_thrown : ByteArray := prog_10_method_2_code
def yX8_thrown : MethodName := ⟨RX8, "thrown", "()I"⟩
abbrev cX8_isIn : ByteArray := prog_10_method_3_code
def yX8_isIn : MethodName := ⟨RX8, "isIn", "(III)Z"⟩
abbrev cX8_isThrown : ByteArray := prog_10_method_4_code
def yX8_isThrown : MethodName := ⟨RX8, "isThrown", "(ZI)Z"⟩
abbrev cX8_apart : ByteArray := prog_10_method_5_code
def yX8_apart : MethodName := ⟨RX8, "apart", "(II)I"⟩
abbrev cX8_isList : ByteArray := prog_10_method_6_code
def yX8_isList : MethodName := ⟨RX8, "isList", "(I)Z"⟩
abbrev cX8_isKiosk : ByteArray := prog_10_method_7_code
def yX8_isKiosk : MethodName := ⟨RX8, "isKiosk", "(I)Z"⟩
abbrev cX8_list : ByteArray := prog_10_method_8_code
def yX8_list : MethodName := ⟨RX8, "list", "()I"⟩
abbrev cX8_isKind : ByteArray := prog_10_method_9_code
def yX8_isKind : MethodName := ⟨RX8, "isKind", "(C)Z"⟩
abbrev cX8_isNumber : ByteArray := prog_10_method_10_code
def yX8_isNumber : MethodName := ⟨RX8, "isNumber", "(CI)Z"⟩
abbrev cX8_line : ByteArray := prog_10_method_11_code
def yX8_line : MethodName := ⟨RX8, "line", "(IICI)I"⟩
abbrev cX8_cut : ByteArray := prog_10_method_12_code
def yX8_cut : MethodName := ⟨RX8, "cut", "(II)C"⟩
abbrev cX8_lines : ByteArray := prog_10_method_13_code
def yX8_lines : MethodName := ⟨RX8, "lines", "(IC)I"⟩
abbrev cX8_copies : ByteArray := prog_10_method_14_code
def yX8_copies : MethodName := ⟨RX8, "copies", "(II)V"⟩
abbrev cX8_kiosk : ByteArray := prog_10_method_15_code
def yX8_kiosk : MethodName := ⟨RX8, "kiosk", "()I"⟩
abbrev cX8_nearest : ByteArray := prog_10_method_16_code
def yX8_nearest : MethodName := ⟨RX8, "nearest", "(I)I"⟩
abbrev cX8_comesTo : ByteArray := prog_10_method_17_code
def yX8_comesTo : MethodName := ⟨RX8, "comesTo", "(II)V"⟩
abbrev cX8_leaves : ByteArray := prog_10_method_18_code
def yX8_leaves : MethodName := ⟨RX8, "leaves", "(I)V"⟩
abbrev cX8_start : ByteArray := prog_10_method_19_code
def yX8_start : MethodName := ⟨RX8, "start", "(II)I"⟩
abbrev cX8_isNone : ByteArray := prog_10_method_20_code
def yX8_isNone : MethodName := ⟨RX8, "isNone", "(I)Z"⟩
abbrev cX8_held : ByteArray := prog_10_method_21_code
def yX8_held : MethodName := ⟨RX8, "held", "(I)I"⟩
abbrev cX8_outOf : ByteArray := prog_10_method_22_code
def yX8_outOf : MethodName := ⟨RX8, "outOf", "(II)I"⟩
abbrev cX8_frees : ByteArray := prog_10_method_23_code
def yX8_frees : MethodName := ⟨RX8, "frees", "(I)V"⟩
abbrev cX8_stop : ByteArray := prog_10_method_24_code
def yX8_stop : MethodName := ⟨RX8, "stop", "(I)I"⟩
abbrev cX8_freeze : ByteArray := prog_10_method_25_code
def yX8_freeze : MethodName := ⟨RX8, "freeze", "(I)Z"⟩
abbrev cX8_thaw : ByteArray := prog_10_method_26_code
def yX8_thaw : MethodName := ⟨RX8, "thaw", "(I)I"⟩
abbrev cX8_state : ByteArray := prog_10_method_27_code
def yX8_state : MethodName := ⟨RX8, "state", "(I)C"⟩
abbrev cX8_plays : ByteArray := prog_10_method_28_code
def yX8_plays : MethodName := ⟨RX8, "plays", "(I)I"⟩
abbrev cX8_playerAt : ByteArray := prog_10_method_29_code
def yX8_playerAt : MethodName := ⟨RX8, "playerAt", "(II)I"⟩
abbrev cX8_next : ByteArray := prog_10_method_30_code
def yX8_next : MethodName := ⟨RX8, "next", "(I)I"⟩
abbrev cX8_count : ByteArray := prog_10_method_31_code
def yX8_count : MethodName := ⟨RX8, "count", "(I)I"⟩
abbrev cX8_waits : ByteArray := prog_10_method_32_code
def yX8_waits : MethodName := ⟨RX8, "waits", "(I)I"⟩
abbrev cX8_top : ByteArray := prog_10_method_33_code
def yX8_top : MethodName := ⟨RX8, "top", "(I)I"⟩
abbrev cX8_turn : ByteArray := prog_10_method_34_code
def yX8_turn : MethodName := ⟨RX8, "turn", "(I)V"⟩
abbrev cX8_does : ByteArray := prog_10_method_35_code
def yX8_does : MethodName := ⟨RX8, "does", "(II)Z"⟩
abbrev cX8_present : ByteArray := prog_10_method_36_code
def yX8_present : MethodName := ⟨RX8, "present", "(I)I"⟩
abbrev cX8_sees : ByteArray := prog_10_method_37_code
def yX8_sees : MethodName := ⟨RX8, "sees", "(III)Z"⟩
abbrev cX8_shows : ByteArray := prog_10_method_38_code
def yX8_shows : MethodName := ⟨RX8, "shows", "(II)Z"⟩
abbrev cX8_takes : ByteArray := prog_10_method_39_code
def yX8_takes : MethodName := ⟨RX8, "takes", "(II)Z"⟩
abbrev cX8_watches : ByteArray := prog_10_method_40_code
def yX8_watches : MethodName := ⟨RX8, "watches", "()V"⟩
abbrev cX8_tick : ByteArray := prog_10_method_41_code
def yX8_tick : MethodName := ⟨RX8, "tick", "(I)I"⟩
abbrev cX8_slide : ByteArray := prog_10_method_42_code
def yX8_slide : MethodName := ⟨RX8, "slide", "(I)I"⟩
abbrev cX8_isDevice : ByteArray := prog_10_method_43_code
def yX8_isDevice : MethodName := ⟨RX8, "isDevice", "(I)Z"⟩
abbrev cX8_holder : ByteArray := prog_10_method_44_code
def yX8_holder : MethodName := ⟨RX8, "holder", "(I)I"⟩
abbrev cX8_queued : ByteArray := prog_10_method_45_code
def yX8_queued : MethodName := ⟨RX8, "queued", "(II)I"⟩
abbrev cX8_visitor : ByteArray := prog_10_method_46_code
def yX8_visitor : MethodName := ⟨RX8, "visitor", "()I"⟩
abbrev cX8_isNoVisitor : ByteArray := prog_10_method_47_code
def yX8_isNoVisitor : MethodName := ⟨RX8, "isNoVisitor", "(I)Z"⟩
abbrev cX8_go : ByteArray := prog_10_method_48_code
def yX8_go : MethodName := ⟨RX8, "go", "(II)I"⟩
abbrev cX8_ask : ByteArray := prog_10_method_49_code
def yX8_ask : MethodName := ⟨RX8, "ask", "(II)Z"⟩
abbrev cX8_saw : ByteArray := prog_10_method_50_code
def yX8_saw : MethodName := ⟨RX8, "saw", "(II)I"⟩
abbrev cX8_done : ByteArray := prog_10_method_51_code
def yX8_done : MethodName := ⟨RX8, "done", "()J"⟩
abbrev cX8_heldShare : ByteArray := prog_10_method_52_code
def yX8_heldShare : MethodName := ⟨RX8, "heldShare", "()F"⟩
abbrev cX8_heldBits : ByteArray := prog_10_method_53_code
def yX8_heldBits : MethodName := ⟨RX8, "heldBits", "()I"⟩
abbrev cX8_meanSeen : ByteArray := prog_10_method_54_code
def yX8_meanSeen : MethodName := ⟨RX8, "meanSeen", "()D"⟩
abbrev cX8_isSound : ByteArray := prog_10_method_55_code
def yX8_isSound : MethodName := ⟨RX8, "isSound", "()Z"⟩
def RJx145de : String := "java/io/Serializable"
def TJx145de : u_T := fun k => match k with
  | _ => ("", "", "", false)
def tyJx145de : Nat → FieldType := fun k => match k with
  | _ => .int
abbrev wsJx145de0 : List Cond := u_ws RJx145de TJx145de 0
theorem nmJx145de : ∀ a, a < 0 → ∀ b, b < 0 → a ≠ b → (TJx145de a).2.1 ≠ (TJx145de b).2.1 := by decide +kernel
theorem tyJx145de_ok : ∀ k, k < 0 → parseFieldDescriptor (TJx145de k).2.2.1 = some (tyJx145de k) := by decide +kernel
def RJx00060 : String := "java/lang/ArrayIndexOutOfBoundsException"
def TJx00060 : u_T := fun k => match k with
  | 0 => ("java/lang/Throwable", "backtrace", "Ljava/lang/Object;", false)
  | 1 => ("java/lang/Throwable", "detailMessage", "Ljava/lang/String;", false)
  | 2 => ("java/lang/Throwable", "cause", "Ljava/lang/Throwable;", false)
  | 3 => ("java/lang/Throwable", "stackTrace", "[Ljava/lang/StackTraceElement;", false)
  | 4 => ("java/lang/Throwable", "depth", "I", false)
  | _ => ("java/lang/Throwable", "suppressedExceptions", "Ljava/util/List;", false)
def tyJx00060 : Nat → FieldType := fun k => match k with
  | 0 => .object "java/lang/Object"
  | 1 => .object "java/lang/String"
  | 2 => .object "java/lang/Throwable"
  | 3 => .array (.object "java/lang/StackTraceElement")
  | 4 => .int
  | _ => .object "java/util/List"
abbrev wsJx000600 : List Cond := u_ws RJx00060 TJx00060 6
theorem nmJx00060 : ∀ a, a < 6 → ∀ b, b < 6 → a ≠ b → (TJx00060 a).2.1 ≠ (TJx00060 b).2.1 := by decide +kernel
theorem tyJx00060_ok : ∀ k, k < 6 → parseFieldDescriptor (TJx00060 k).2.2.1 = some (tyJx00060 k) := by decide +kernel
abbrev cJx00060_init_a7421 : ByteArray := prog_13_method_2_code
def yJx00060_init_a7421 : MethodName := ⟨RJx00060, "<init>", "(Ljava/lang/String;)V"⟩
def RJxb160c : String := "java/lang/Comparable"
def TJxb160c : u_T := fun k => match k with
  | _ => ("", "", "", false)
def tyJxb160c : Nat → FieldType := fun k => match k with
  | _ => .int
abbrev wsJxb160c0 : List Cond := u_ws RJxb160c TJxb160c 0
theorem nmJxb160c : ∀ a, a < 0 → ∀ b, b < 0 → a ≠ b → (TJxb160c a).2.1 ≠ (TJxb160c b).2.1 := by decide +kernel
theorem tyJxb160c_ok : ∀ k, k < 0 → parseFieldDescriptor (TJxb160c k).2.2.1 = some (tyJxb160c k) := by decide +kernel
def RJx29ce0 : String := "java/lang/Enum"
def TJx29ce0 : u_T := fun k => match k with
  | _ => ("", "", "", false)
def tyJx29ce0 : Nat → FieldType := fun k => match k with
  | _ => .int
abbrev wsJx29ce00 : List Cond := u_ws RJx29ce0 TJx29ce0 0
theorem nmJx29ce0 : ∀ a, a < 0 → ∀ b, b < 0 → a ≠ b → (TJx29ce0 a).2.1 ≠ (TJx29ce0 b).2.1 := by decide +kernel
theorem tyJx29ce0_ok : ∀ k, k < 0 → parseFieldDescriptor (TJx29ce0 k).2.2.1 = some (tyJx29ce0 k) := by decide +kernel
def RJxf58ca : String := "java/lang/Float"
def TJxf58ca : u_T := fun k => match k with
  | _ => ("", "", "", false)
def tyJxf58ca : Nat → FieldType := fun k => match k with
  | _ => .int
abbrev wsJxf58ca0 : List Cond := u_ws RJxf58ca TJxf58ca 0
theorem nmJxf58ca : ∀ a, a < 0 → ∀ b, b < 0 → a ≠ b → (TJxf58ca a).2.1 ≠ (TJxf58ca b).2.1 := by decide +kernel
theorem tyJxf58ca_ok : ∀ k, k < 0 → parseFieldDescriptor (TJxf58ca k).2.2.1 = some (tyJxf58ca k) := by decide +kernel
abbrev cJxf58ca_isNaN_12338 : ByteArray := prog_17_method_6_code
def yJxf58ca_isNaN_12338 : MethodName := ⟨RJxf58ca, "isNaN", "(F)Z"⟩
abbrev cJxf58ca_floatToIntBits_5c35a : ByteArray := prog_17_method_24_code
def yJxf58ca_floatToIntBits_5c35a : MethodName := ⟨RJxf58ca, "floatToIntBits", "(F)I"⟩
def RJxd2413 : String := "java/lang/Number"
def TJxd2413 : u_T := fun k => match k with
  | _ => ("", "", "", false)
def tyJxd2413 : Nat → FieldType := fun k => match k with
  | _ => .int
abbrev wsJxd24130 : List Cond := u_ws RJxd2413 TJxd2413 0
theorem nmJxd2413 : ∀ a, a < 0 → ∀ b, b < 0 → a ≠ b → (TJxd2413 a).2.1 ≠ (TJxd2413 b).2.1 := by decide +kernel
theorem tyJxd2413_ok : ∀ k, k < 0 → parseFieldDescriptor (TJxd2413 k).2.2.1 = some (tyJxd2413 k) := by decide +kernel
def RJ0 : String := "java/lang/String"
def TJ0 : u_T := fun k => match k with
  | 0 => ("java/lang/String", "value", "[B", true)
  | _ => ("java/lang/String", "coder", "B", true)
def tyJ0 : Nat → FieldType := fun k => match k with
  | 0 => .array .byte
  | _ => .byte
abbrev wsJ00 : List Cond := u_ws RJ0 TJ0 2
theorem nmJ0 : ∀ a, a < 2 → ∀ b, b < 2 → a ≠ b → (TJ0 a).2.1 ≠ (TJ0 b).2.1 := by decide +kernel
theorem tyJ0_ok : ∀ k, k < 2 → parseFieldDescriptor (TJ0 k).2.2.1 = some (tyJ0 k) := by decide +kernel
def RJxfd54e : String := "java/lang/constant/Constable"
def TJxfd54e : u_T := fun k => match k with
  | _ => ("", "", "", false)
def tyJxfd54e : Nat → FieldType := fun k => match k with
  | _ => .int
abbrev wsJxfd54e0 : List Cond := u_ws RJxfd54e TJxfd54e 0
theorem nmJxfd54e : ∀ a, a < 0 → ∀ b, b < 0 → a ≠ b → (TJxfd54e a).2.1 ≠ (TJxfd54e b).2.1 := by decide +kernel
theorem tyJxfd54e_ok : ∀ k, k < 0 → parseFieldDescriptor (TJxfd54e k).2.2.1 = some (tyJxfd54e k) := by decide +kernel
def RJx3cf43 : String := "java/lang/constant/ConstantDesc"
def TJx3cf43 : u_T := fun k => match k with
  | _ => ("", "", "", false)
def tyJx3cf43 : Nat → FieldType := fun k => match k with
  | _ => .int
abbrev wsJx3cf430 : List Cond := u_ws RJx3cf43 TJx3cf43 0
theorem nmJx3cf43 : ∀ a, a < 0 → ∀ b, b < 0 → a ≠ b → (TJx3cf43 a).2.1 ≠ (TJx3cf43 b).2.1 := by decide +kernel
theorem tyJx3cf43_ok : ∀ k, k < 0 → parseFieldDescriptor (TJx3cf43 k).2.2.1 = some (tyJx3cf43 k) := by decide +kernel
def RL : String := "KioskReelLaw"
abbrev cL_list : ByteArray := method_3_code
def yL_list : MethodName := ⟨RL, "list", "(LKioskReel;[J)I"⟩
abbrev cL_line : ByteArray := method_4_code
def yL_line : MethodName := ⟨RL, "line", "(LKioskReel;IICI[J)I"⟩
abbrev cL_cut : ByteArray := method_5_code
def yL_cut : MethodName := ⟨RL, "cut", "(LKioskReel;II[J)I"⟩
abbrev cL_lines : ByteArray := method_6_code
def yL_lines : MethodName := ⟨RL, "lines", "(LKioskReel;IC[J)I"⟩
abbrev cL_kiosk : ByteArray := method_7_code
def yL_kiosk : MethodName := ⟨RL, "kiosk", "(LKioskReel;[J)I"⟩
abbrev cL_start : ByteArray := method_8_code
def yL_start : MethodName := ⟨RL, "start", "(LKioskReel;II[J)I"⟩
abbrev cL_stop : ByteArray := method_9_code
def yL_stop : MethodName := ⟨RL, "stop", "(LKioskReel;I[J)I"⟩
abbrev cL_freeze : ByteArray := method_10_code
def yL_freeze : MethodName := ⟨RL, "freeze", "(LKioskReel;I[J)I"⟩
abbrev cL_thaw : ByteArray := method_11_code
def yL_thaw : MethodName := ⟨RL, "thaw", "(LKioskReel;I[J)I"⟩
abbrev cL_state : ByteArray := method_12_code
def yL_state : MethodName := ⟨RL, "state", "(LKioskReel;I[J)I"⟩
abbrev cL_plays : ByteArray := method_13_code
def yL_plays : MethodName := ⟨RL, "plays", "(LKioskReel;I[J)I"⟩
abbrev cL_playerAt : ByteArray := method_14_code
def yL_playerAt : MethodName := ⟨RL, "playerAt", "(LKioskReel;II[J)I"⟩
abbrev cL_next : ByteArray := method_15_code
def yL_next : MethodName := ⟨RL, "next", "(LKioskReel;I[J)I"⟩
abbrev cL_count : ByteArray := method_16_code
def yL_count : MethodName := ⟨RL, "count", "(LKioskReel;I[J)I"⟩
abbrev cL_waits : ByteArray := method_17_code
def yL_waits : MethodName := ⟨RL, "waits", "(LKioskReel;I[J)I"⟩
abbrev cL_tick : ByteArray := method_18_code
def yL_tick : MethodName := ⟨RL, "tick", "(LKioskReel;I[J)I"⟩
abbrev cL_slide : ByteArray := method_19_code
def yL_slide : MethodName := ⟨RL, "slide", "(LKioskReel;I[J)I"⟩
abbrev cL_holder : ByteArray := method_20_code
def yL_holder : MethodName := ⟨RL, "holder", "(LKioskReel;I[J)I"⟩
abbrev cL_queued : ByteArray := method_21_code
def yL_queued : MethodName := ⟨RL, "queued", "(LKioskReel;II[J)I"⟩
abbrev cL_visitor : ByteArray := method_22_code
def yL_visitor : MethodName := ⟨RL, "visitor", "(LKioskReel;[J)I"⟩
abbrev cL_go : ByteArray := method_23_code
def yL_go : MethodName := ⟨RL, "go", "(LKioskReel;II[J)I"⟩
abbrev cL_ask : ByteArray := method_24_code
def yL_ask : MethodName := ⟨RL, "ask", "(LKioskReel;II[J)I"⟩
abbrev cL_saw : ByteArray := method_25_code
def yL_saw : MethodName := ⟨RL, "saw", "(LKioskReel;II[J)I"⟩
abbrev cL_meanSeen : ByteArray := method_26_code
def yL_meanSeen : MethodName := ⟨RL, "meanSeen", "(LKioskReel;[D)I"⟩
abbrev cL_law : ByteArray := code
def yL_law : MethodName := ⟨RL, "law", "([I)Z"⟩
def wsX4_init : List Cond := .code yX4_init cX4_init 1 none :: ([.methodLink RX4 3 objectInit, .instanceMethod objectInit, .code objectInit ⟨#[0xb1]⟩ 1 none, .arrayClass .int, .fieldLink RX4 9 "KioskReel$PlayerRow" "members" "[I"] ++ wsX40)
def wsX0_init : List Cond := .code yX0_init cX0_init 1 none :: ([.methodLink RX0 3 objectInit, .instanceMethod objectInit, .code objectInit ⟨#[0xb1]⟩ 1 none, .classLink RX0 9 RX4, .instantiable RX4 2, .initialized RX4, .fieldLink RX0 12 "KioskReel$Device" "queue" "LKioskReel$PlayerRow;", .fieldLink RX0 18 "KioskReel$Device" "owner" "I", .instanceMethod yX4_init, .code yX4_init cX4_init 1 none, .methodLink RX4 3 objectInit, .arrayClass .int, .fieldLink RX4 9 "KioskReel$PlayerRow" "members" "[I"] ++ wsX40 ++ wsX00)
def wsX1_init : List Cond := .code yX1_init cX1_init 1 none :: ([.methodLink RX1 3 objectInit, .instanceMethod objectInit, .code objectInit ⟨#[0xb1]⟩ 1 none, .classLink RX1 9 RX4, .instantiable RX4 2, .initialized RX4, .fieldLink RX1 12 "KioskReel$Kiosk" "playing" "LKioskReel$PlayerRow;", .fieldLink RX1 18 "KioskReel$Kiosk" "lastSlide" "I", .instanceMethod yX4_init, .code yX4_init cX4_init 1 none, .methodLink RX4 3 objectInit, .arrayClass .int, .fieldLink RX4 9 "KioskReel$PlayerRow" "members" "[I"] ++ wsX40 ++ wsX10)
def wsX5_init : List Cond := .code yX5_init cX5_init 1 none :: ([.methodLink RX5 3 objectInit, .instanceMethod objectInit, .code objectInit ⟨#[0xb1]⟩ 1 none, .arrayClass .char, .fieldLink RX5 9 "KioskReel$Reel" "kinds" "[C", .arrayClass .int, .fieldLink RX5 15 "KioskReel$Reel" "numbers" "[I"] ++ wsX50)
def wsX3_init : List Cond := .code yX3_init cX3_init 2 none :: ([.methodLink RX3 3 objectInit, .instanceMethod objectInit, .code objectInit ⟨#[0xb1]⟩ 1 none, .classLink RX3 9 RX5, .fieldLink RX3 11 "KioskReel$Player" "pile" "[LKioskReel$Reel;", .arrayClass .int, .fieldLink RX3 17 "KioskReel$Player" "ahead" "[I", .fieldLink RX3 21 "KioskReel$Player" "height" "I", .fieldLink RX3 25 "KioskReel$Player" "place" "I", .fieldLink RX3 28 "KioskReel$Player" "awaitedDevice" "I", .instantiable RX5 3, .initialized RX5, .instanceMethod yX5_init, .code yX5_init cX5_init 1 none, .methodLink RX5 3 objectInit, .arrayClass .char, .fieldLink RX5 9 "KioskReel$Reel" "kinds" "[C", .fieldLink RX5 15 "KioskReel$Reel" "numbers" "[I"] ++ wsX30 ++ wsX50)
def wsX5_copyFrom : List Cond := .code yX5_copyFrom cX5_copyFrom 3 none :: ([.fieldLink RX5 19 "KioskReel$Reel" "size" "I", .fieldLink RX5 9 "KioskReel$Reel" "kinds" "[C", .fieldLink RX5 15 "KioskReel$Reel" "numbers" "[I"] ++ wsX50 ++ (vx_atM "java/lang/ArrayIndexOutOfBoundsException" ["java/lang/IndexOutOfBoundsException", "java/lang/RuntimeException", "java/lang/Exception"]).filter goodWord)
def wsX3_putOnPile : List Cond := .code yX3_putOnPile cX3_putOnPile 2 none :: ([.fieldLink RX3 21 "KioskReel$Player" "height" "I", .fieldLink RX3 11 "KioskReel$Player" "pile" "[LKioskReel$Reel;", .fieldLink RX3 17 "KioskReel$Player" "ahead" "[I", .methodLink RX3 52 yX5_copyFrom, .instanceMethod yX5_copyFrom, .selects RX5 yX5_copyFrom yX5_copyFrom, .initialized RX5, .code yX5_copyFrom cX5_copyFrom 3 none, .fieldLink RX5 19 "KioskReel$Reel" "size" "I", .fieldLink RX5 9 "KioskReel$Reel" "kinds" "[C", .fieldLink RX5 15 "KioskReel$Reel" "numbers" "[I"] ++ wsX30 ++ wsX50 ++ (vx_atM "java/lang/ArrayIndexOutOfBoundsException" ["java/lang/IndexOutOfBoundsException", "java/lang/RuntimeException", "java/lang/Exception"]).filter goodWord)
def wsX3_beginPile : List Cond := .code yX3_beginPile cX3_beginPile 2 none :: ([.fieldLink RX3 21 "KioskReel$Player" "height" "I", .methodLink RX3 49 yX3_putOnPile, .instanceMethod yX3_putOnPile, .selects RX3 yX3_putOnPile yX3_putOnPile, .initialized RX3, .code yX3_putOnPile cX3_putOnPile 2 none, .fieldLink RX3 11 "KioskReel$Player" "pile" "[LKioskReel$Reel;", .fieldLink RX3 17 "KioskReel$Player" "ahead" "[I", .methodLink RX3 52 yX5_copyFrom, .instanceMethod yX5_copyFrom, .selects RX5 yX5_copyFrom yX5_copyFrom, .initialized RX5, .code yX5_copyFrom cX5_copyFrom 3 none, .fieldLink RX5 19 "KioskReel$Reel" "size" "I", .fieldLink RX5 9 "KioskReel$Reel" "kinds" "[C", .fieldLink RX5 15 "KioskReel$Reel" "numbers" "[I"] ++ wsX30 ++ wsX50 ++ (vx_atM "java/lang/ArrayIndexOutOfBoundsException" ["java/lang/IndexOutOfBoundsException", "java/lang/RuntimeException", "java/lang/Exception"]).filter goodWord)
def wsX3_begin_r1 : List Cond := [Cond.fieldLink RX3 32 "KioskReel$Player" "started" "Z", Cond.fieldLink RX3 36 "KioskReel$Player" "firstList" "I", Cond.fieldLink RX3 39 "KioskReel$Player" "counter" "I", Cond.fieldLink RX3 42 "KioskReel$Player" "ticksToWait" "I", Cond.fieldLink RX3 28 "KioskReel$Player" "awaitedDevice" "I", Cond.methodLink RX3 45 yX3_beginPile, Cond.instanceMethod yX3_beginPile, Cond.selects RX3 yX3_beginPile yX3_beginPile, Cond.initialized RX3, Cond.code yX3_beginPile cX3_beginPile 2 none, Cond.fieldLink RX3 21 "KioskReel$Player" "height" "I", Cond.methodLink RX3 49 yX3_putOnPile, Cond.instanceMethod yX3_putOnPile, Cond.selects RX3 yX3_putOnPile yX3_putOnPile, Cond.code yX3_putOnPile cX3_putOnPile 2 none, Cond.fieldLink RX3 11 "KioskReel$Player" "pile" "[LKioskReel$Reel;", Cond.fieldLink RX3 17 "KioskReel$Player" "ahead" "[I", Cond.methodLink RX3 52 yX5_copyFrom, Cond.instanceMethod yX5_copyFrom, Cond.selects RX5 yX5_copyFrom yX5_copyFrom, Cond.initialized RX5, Cond.code yX5_copyFrom cX5_copyFrom 3 none, Cond.fieldLink RX5 19 "KioskReel$Reel" "size" "I", Cond.fieldLink RX5 9 "KioskReel$Reel" "kinds" "[C"]
def wsX3_begin_r2 : List Cond := [Cond.fieldLink RX5 15 "KioskReel$Reel" "numbers" "[I"]
def wsX3_begin : List Cond := .code yX3_begin cX3_begin 3 none :: ((wsX3_begin_r1 ++ wsX3_begin_r2) ++ wsX30 ++ wsX50 ++ (vx_atM "java/lang/ArrayIndexOutOfBoundsException" ["java/lang/IndexOutOfBoundsException", "java/lang/RuntimeException", "java/lang/Exception"]).filter goodWord)
def wsX3_lineAhead : List Cond := .code yX3_lineAhead cX3_lineAhead 1 (some .int) :: ([.fieldLink RX3 17 "KioskReel$Player" "ahead" "[I", .fieldLink RX3 21 "KioskReel$Player" "height" "I"] ++ wsX30 ++ (vx_atM "java/lang/ArrayIndexOutOfBoundsException" ["java/lang/IndexOutOfBoundsException", "java/lang/RuntimeException", "java/lang/Exception"]).filter goodWord)
def wsX3_isAtEnd : List Cond := .code yX3_isAtEnd cX3_isAtEnd 1 (some .boolean) :: ([.fieldLink RX3 11 "KioskReel$Player" "pile" "[LKioskReel$Reel;", .fieldLink RX3 21 "KioskReel$Player" "height" "I", .fieldLink RX3 63 "KioskReel$Reel" "size" "I", .methodLink RX3 59 yX3_lineAhead, .instanceMethod yX3_lineAhead, .selects RX3 yX3_lineAhead yX3_lineAhead, .initialized RX3, .code yX3_lineAhead cX3_lineAhead 1 (some .int), .fieldLink RX3 17 "KioskReel$Player" "ahead" "[I"] ++ wsX30 ++ wsX50 ++ (vx_atM "java/lang/ArrayIndexOutOfBoundsException" ["java/lang/IndexOutOfBoundsException", "java/lang/RuntimeException", "java/lang/Exception"]).filter goodWord)
def wsX3_takeEndedFromPile : List Cond := .code yX3_takeEndedFromPile cX3_takeEndedFromPile 1 none :: ([.fieldLink RX3 21 "KioskReel$Player" "height" "I", .methodLink RX3 55 yX3_isAtEnd, .instanceMethod yX3_isAtEnd, .selects RX3 yX3_isAtEnd yX3_isAtEnd, .initialized RX3, .code yX3_isAtEnd cX3_isAtEnd 1 (some .boolean), .fieldLink RX3 11 "KioskReel$Player" "pile" "[LKioskReel$Reel;", .fieldLink RX3 63 "KioskReel$Reel" "size" "I", .methodLink RX3 59 yX3_lineAhead, .instanceMethod yX3_lineAhead, .selects RX3 yX3_lineAhead yX3_lineAhead, .code yX3_lineAhead cX3_lineAhead 1 (some .int), .fieldLink RX3 17 "KioskReel$Player" "ahead" "[I"] ++ wsX30 ++ wsX50 ++ (vx_atM "java/lang/ArrayIndexOutOfBoundsException" ["java/lang/IndexOutOfBoundsException", "java/lang/RuntimeException", "java/lang/Exception"]).filter goodWord)
def wsX3_goOnAt : List Cond := .code yX3_goOnAt cX3_goOnAt 2 none :: ([.fieldLink RX3 17 "KioskReel$Player" "ahead" "[I", .fieldLink RX3 21 "KioskReel$Player" "height" "I"] ++ wsX30 ++ (vx_atM "java/lang/ArrayIndexOutOfBoundsException" ["java/lang/IndexOutOfBoundsException", "java/lang/RuntimeException", "java/lang/Exception"]).filter goodWord)
def wsX4_addLast : List Cond := .code yX4_addLast cX4_addLast 2 none :: ([.fieldLink RX4 15 "KioskReel$PlayerRow" "size" "I", .fieldLink RX4 9 "KioskReel$PlayerRow" "members" "[I"] ++ wsX40 ++ (vx_atM "java/lang/ArrayIndexOutOfBoundsException" ["java/lang/IndexOutOfBoundsException", "java/lang/RuntimeException", "java/lang/Exception"]).filter goodWord)
def wsX4_addFirst : List Cond := .code yX4_addFirst cX4_addFirst 3 none :: ([.fieldLink RX4 15 "KioskReel$PlayerRow" "size" "I", .fieldLink RX4 9 "KioskReel$PlayerRow" "members" "[I"] ++ wsX40 ++ (vx_atM "java/lang/ArrayIndexOutOfBoundsException" ["java/lang/IndexOutOfBoundsException", "java/lang/RuntimeException", "java/lang/Exception"]).filter goodWord)
def wsX4_remove : List Cond := .code yX4_remove cX4_remove 4 none :: ([.fieldLink RX4 15 "KioskReel$PlayerRow" "size" "I", .fieldLink RX4 9 "KioskReel$PlayerRow" "members" "[I"] ++ wsX40 ++ (vx_atM "java/lang/ArrayIndexOutOfBoundsException" ["java/lang/IndexOutOfBoundsException", "java/lang/RuntimeException", "java/lang/Exception"]).filter goodWord)
def wsX4_timesIn : List Cond := .code yX4_timesIn cX4_timesIn 4 (some .int) :: ([.fieldLink RX4 15 "KioskReel$PlayerRow" "size" "I", .fieldLink RX4 9 "KioskReel$PlayerRow" "members" "[I"] ++ wsX40 ++ (vx_atM "java/lang/ArrayIndexOutOfBoundsException" ["java/lang/IndexOutOfBoundsException", "java/lang/RuntimeException", "java/lang/Exception"]).filter goodWord)
def wsX5_insertAt : List Cond := .code yX5_insertAt cX5_insertAt 5 none :: ([.fieldLink RX5 19 "KioskReel$Reel" "size" "I", .fieldLink RX5 9 "KioskReel$Reel" "kinds" "[C", .fieldLink RX5 15 "KioskReel$Reel" "numbers" "[I"] ++ wsX50 ++ (vx_atM "java/lang/ArrayIndexOutOfBoundsException" ["java/lang/IndexOutOfBoundsException", "java/lang/RuntimeException", "java/lang/Exception"]).filter goodWord)
def wsX5_removeAt : List Cond := .code yX5_removeAt cX5_removeAt 3 none :: ([.fieldLink RX5 19 "KioskReel$Reel" "size" "I", .fieldLink RX5 9 "KioskReel$Reel" "kinds" "[C", .fieldLink RX5 15 "KioskReel$Reel" "numbers" "[I"] ++ wsX50 ++ (vx_atM "java/lang/ArrayIndexOutOfBoundsException" ["java/lang/IndexOutOfBoundsException", "java/lang/RuntimeException", "java/lang/Exception"]).filter goodWord)
def wsX5_linesOf : List Cond := .code yX5_linesOf cX5_linesOf 4 (some .int) :: ([.fieldLink RX5 19 "KioskReel$Reel" "size" "I", .fieldLink RX5 9 "KioskReel$Reel" "kinds" "[C"] ++ wsX50 ++ (vx_atM "java/lang/ArrayIndexOutOfBoundsException" ["java/lang/IndexOutOfBoundsException", "java/lang/RuntimeException", "java/lang/Exception"]).filter goodWord)
def wsX6_init : List Cond := .code yX6_init cX6_init 1 none :: ([.methodLink RX6 3 objectInit, .instanceMethod objectInit, .code objectInit ⟨#[0xb1]⟩ 1 none, .arrayClass .int, .fieldLink RX6 9 "KioskReel$Visitor" "timesSeen" "[I", .fieldLink RX6 15 "KioskReel$Visitor" "timesAsked" "[I", .arrayClass .boolean, .fieldLink RX6 18 "KioskReel$Visitor" "wants" "[Z", .fieldLink RX6 22 "KioskReel$Visitor" "place" "I"] ++ wsX60)
def wsX6_wouldSee : List Cond := .code yX6_wouldSee cX6_wouldSee 2 (some .boolean) :: ([.fieldLink RX6 9 "KioskReel$Visitor" "timesSeen" "[I", .fieldLink RX6 18 "KioskReel$Visitor" "wants" "[Z"] ++ wsX60 ++ (vx_atM "java/lang/ArrayIndexOutOfBoundsException" ["java/lang/IndexOutOfBoundsException", "java/lang/RuntimeException", "java/lang/Exception"]).filter goodWord)
def wsX6_see : List Cond := .code yX6_see cX6_see 2 none :: ([.fieldLink RX6 9 "KioskReel$Visitor" "timesSeen" "[I", .fieldLink RX6 18 "KioskReel$Visitor" "wants" "[Z"] ++ wsX60 ++ (vx_atM "java/lang/ArrayIndexOutOfBoundsException" ["java/lang/IndexOutOfBoundsException", "java/lang/RuntimeException", "java/lang/Exception"]).filter goodWord)
def wsX7_init_r1 : List Cond := [Cond.methodLink RX7 1 objectInit, Cond.instanceMethod objectInit, Cond.code objectInit ⟨#[0xb1]⟩ 1 none, Cond.classLink RX7 9 RX5, Cond.fieldLink RX7 11 "KioskReel" "reels" "[LKioskReel$Reel;", Cond.classLink RX7 15 RX1, Cond.fieldLink RX7 17 "KioskReel" "kiosks" "[LKioskReel$Kiosk;", Cond.classLink RX7 21 RX3, Cond.fieldLink RX7 23 "KioskReel" "players" "[LKioskReel$Player;", Cond.classLink RX7 27 RX0, Cond.fieldLink RX7 29 "KioskReel" "devices" "[LKioskReel$Device;", Cond.classLink RX7 33 RX6, Cond.fieldLink RX7 35 "KioskReel" "visitors" "[LKioskReel$Visitor;", Cond.instantiable RX5 3, Cond.initialized RX5, Cond.instantiable RX1 5, Cond.initialized RX1, Cond.instantiable RX3 9, Cond.initialized RX3, Cond.instantiable RX0 2, Cond.initialized RX0, Cond.instantiable RX6 4, Cond.initialized RX6, Cond.instanceMethod yX5_init]
def wsX7_init_r2 : List Cond := [Cond.code yX5_init cX5_init 1 none, Cond.methodLink RX5 3 objectInit, Cond.arrayClass .char, Cond.fieldLink RX5 9 "KioskReel$Reel" "kinds" "[C", Cond.arrayClass .int, Cond.fieldLink RX5 15 "KioskReel$Reel" "numbers" "[I", Cond.instanceMethod yX1_init, Cond.code yX1_init cX1_init 1 none, Cond.methodLink RX1 3 objectInit, Cond.classLink RX1 9 RX4, Cond.instantiable RX4 2, Cond.initialized RX4, Cond.fieldLink RX1 12 "KioskReel$Kiosk" "playing" "LKioskReel$PlayerRow;", Cond.fieldLink RX1 18 "KioskReel$Kiosk" "lastSlide" "I", Cond.instanceMethod yX4_init, Cond.code yX4_init cX4_init 1 none, Cond.methodLink RX4 3 objectInit, Cond.fieldLink RX4 9 "KioskReel$PlayerRow" "members" "[I", Cond.methodLink RX7 41 yX3_init, Cond.instanceMethod yX3_init, Cond.code yX3_init cX3_init 2 none, Cond.methodLink RX3 3 objectInit, Cond.classLink RX3 9 RX5, Cond.fieldLink RX3 11 "KioskReel$Player" "pile" "[LKioskReel$Reel;"]
def wsX7_init_r3 : List Cond := [Cond.fieldLink RX3 17 "KioskReel$Player" "ahead" "[I", Cond.fieldLink RX3 21 "KioskReel$Player" "height" "I", Cond.fieldLink RX3 25 "KioskReel$Player" "place" "I", Cond.fieldLink RX3 28 "KioskReel$Player" "awaitedDevice" "I", Cond.instanceMethod yX0_init, Cond.code yX0_init cX0_init 1 none, Cond.methodLink RX0 3 objectInit, Cond.classLink RX0 9 RX4, Cond.fieldLink RX0 12 "KioskReel$Device" "queue" "LKioskReel$PlayerRow;", Cond.fieldLink RX0 18 "KioskReel$Device" "owner" "I", Cond.instanceMethod yX6_init, Cond.code yX6_init cX6_init 1 none, Cond.methodLink RX6 3 objectInit, Cond.fieldLink RX6 9 "KioskReel$Visitor" "timesSeen" "[I", Cond.fieldLink RX6 15 "KioskReel$Visitor" "timesAsked" "[I", Cond.arrayClass .boolean, Cond.fieldLink RX6 18 "KioskReel$Visitor" "wants" "[Z", Cond.fieldLink RX6 22 "KioskReel$Visitor" "place" "I"]
def wsX7_init : List Cond := .code yX7_init cX7_init 2 none :: ((wsX7_init_r1 ++ (wsX7_init_r2 ++ wsX7_init_r3)) ++ wsX70 ++ wsX50 ++ wsX10 ++ wsX30 ++ wsX00 ++ wsX60 ++ wsX40)
def wsX7_list : List Cond := .code yX7_list cX7_list 1 (some .int) :: ([.classLink RX7 48 "java/lang/IllegalStateException", .initialized "java/lang/IllegalStateException", .fieldLink RX7 44 "KioskReel" "reelCount" "I"] ++ wsX70 ++ (vx_atS RX7 52 "java/lang/IllegalStateException" ["java/lang/RuntimeException", "java/lang/Exception"]).filter goodWord)
def wsX7_checkList : List Cond := .code yX7_checkList cX7_checkList 2 none :: ([.classLink RX7 62 "java/lang/IndexOutOfBoundsException", .initialized "java/lang/IndexOutOfBoundsException", .fieldLink RX7 44 "KioskReel" "reelCount" "I"] ++ wsX70 ++ (vx_atS RX7 66 "java/lang/IndexOutOfBoundsException" ["java/lang/RuntimeException", "java/lang/Exception"]).filter goodWord)
def wsX7_mostNumber : List Cond := .code yX7_mostNumber cX7_mostNumber 1 (some .int) :: ([])
def wsX7_checkKind : List Cond := .code yX7_checkKind cX7_checkKind 1 none :: ([.classLink RX7 78 "java/lang/IllegalArgumentException", .initialized "java/lang/IllegalArgumentException", .methodLink RX7 75 yX7_mostNumber, .static yX7_mostNumber, .initialized RX7, .code yX7_mostNumber cX7_mostNumber 1 (some .int)] ++ (vx_atS RX7 82 "java/lang/IllegalArgumentException" ["java/lang/RuntimeException", "java/lang/Exception"]).filter goodWord)
def wsX7_leastNumber : List Cond := .code yX7_leastNumber cX7_leastNumber 1 (some .int) :: ([])
def wsX7_line_r1 : List Cond := [Cond.classLink RX7 62 "java/lang/IndexOutOfBoundsException", Cond.initialized "java/lang/IndexOutOfBoundsException", Cond.classLink RX7 78 "java/lang/IllegalArgumentException", Cond.initialized "java/lang/IllegalArgumentException", Cond.classLink RX7 48 "java/lang/IllegalStateException", Cond.initialized "java/lang/IllegalStateException", Cond.fieldLink RX7 11 "KioskReel" "reels" "[LKioskReel$Reel;", Cond.fieldLink RX7 59 "KioskReel$Reel" "size" "I", Cond.methodLink RX7 55 yX7_checkList, Cond.instanceMethod yX7_checkList, Cond.selects RX7 yX7_checkList yX7_checkList, Cond.initialized RX7, Cond.code yX7_checkList cX7_checkList 2 none, Cond.fieldLink RX7 44 "KioskReel" "reelCount" "I", Cond.methodLink RX7 67 yX7_checkKind, Cond.static yX7_checkKind, Cond.code yX7_checkKind cX7_checkKind 1 none, Cond.methodLink RX7 75 yX7_mostNumber, Cond.static yX7_mostNumber, Cond.code yX7_mostNumber cX7_mostNumber 1 (some .int), Cond.methodLink RX7 71 yX7_leastNumber, Cond.static yX7_leastNumber, Cond.code yX7_leastNumber cX7_leastNumber 1 (some .int), Cond.methodLink RX7 85 yX5_insertAt]
def wsX7_line_r2 : List Cond := [Cond.instanceMethod yX5_insertAt, Cond.selects RX5 yX5_insertAt yX5_insertAt, Cond.initialized RX5, Cond.code yX5_insertAt cX5_insertAt 5 none, Cond.fieldLink RX5 19 "KioskReel$Reel" "size" "I", Cond.fieldLink RX5 9 "KioskReel$Reel" "kinds" "[C", Cond.fieldLink RX5 15 "KioskReel$Reel" "numbers" "[I"]
def wsX7_line : List Cond := .code yX7_line cX7_line 6 (some .int) :: ((wsX7_line_r1 ++ wsX7_line_r2) ++ wsX70 ++ wsX50 ++ (vx_atS RX7 66 "java/lang/IndexOutOfBoundsException" ["java/lang/RuntimeException", "java/lang/Exception"]).filter goodWord ++ (vx_atS RX7 82 "java/lang/IllegalArgumentException" ["java/lang/RuntimeException", "java/lang/Exception"]).filter goodWord ++ (vx_atS RX7 52 "java/lang/IllegalStateException" ["java/lang/RuntimeException", "java/lang/Exception"]).filter goodWord ++ (vx_atM "java/lang/ArrayIndexOutOfBoundsException" ["java/lang/IndexOutOfBoundsException", "java/lang/RuntimeException", "java/lang/Exception"]).filter goodWord)
def wsX7_cut : List Cond := .code yX7_cut cX7_cut 5 (some .char) :: ([.classLink RX7 62 "java/lang/IndexOutOfBoundsException", .initialized "java/lang/IndexOutOfBoundsException", .fieldLink RX7 11 "KioskReel" "reels" "[LKioskReel$Reel;", .fieldLink RX7 59 "KioskReel$Reel" "size" "I", .fieldLink RX7 89 "KioskReel$Reel" "kinds" "[C", .methodLink RX7 55 yX7_checkList, .instanceMethod yX7_checkList, .selects RX7 yX7_checkList yX7_checkList, .initialized RX7, .code yX7_checkList cX7_checkList 2 none, .fieldLink RX7 44 "KioskReel" "reelCount" "I", .methodLink RX7 93 yX5_removeAt, .instanceMethod yX5_removeAt, .selects RX5 yX5_removeAt yX5_removeAt, .initialized RX5, .code yX5_removeAt cX5_removeAt 3 none, .fieldLink RX5 19 "KioskReel$Reel" "size" "I", .fieldLink RX5 9 "KioskReel$Reel" "kinds" "[C", .fieldLink RX5 15 "KioskReel$Reel" "numbers" "[I"] ++ wsX70 ++ wsX50 ++ (vx_atS RX7 66 "java/lang/IndexOutOfBoundsException" ["java/lang/RuntimeException", "java/lang/Exception"]).filter goodWord ++ (vx_atM "java/lang/ArrayIndexOutOfBoundsException" ["java/lang/IndexOutOfBoundsException", "java/lang/RuntimeException", "java/lang/Exception"]).filter goodWord)
def wsX7_lines : List Cond := .code yX7_lines cX7_lines 3 (some .int) :: ([.fieldLink RX7 11 "KioskReel" "reels" "[LKioskReel$Reel;", .methodLink RX7 55 yX7_checkList, .instanceMethod yX7_checkList, .selects RX7 yX7_checkList yX7_checkList, .initialized RX7, .code yX7_checkList cX7_checkList 2 none, .classLink RX7 62 "java/lang/IndexOutOfBoundsException", .initialized "java/lang/IndexOutOfBoundsException", .fieldLink RX7 44 "KioskReel" "reelCount" "I", .methodLink RX7 67 yX7_checkKind, .static yX7_checkKind, .code yX7_checkKind cX7_checkKind 1 none, .classLink RX7 78 "java/lang/IllegalArgumentException", .initialized "java/lang/IllegalArgumentException", .methodLink RX7 75 yX7_mostNumber, .static yX7_mostNumber, .code yX7_mostNumber cX7_mostNumber 1 (some .int), .methodLink RX7 96 yX5_linesOf, .instanceMethod yX5_linesOf, .selects RX5 yX5_linesOf yX5_linesOf, .initialized RX5, .code yX5_linesOf cX5_linesOf 4 (some .int), .fieldLink RX5 19 "KioskReel$Reel" "size" "I", .fieldLink RX5 9 "KioskReel$Reel" "kinds" "[C"] ++ wsX70 ++ wsX50 ++ (vx_atS RX7 66 "java/lang/IndexOutOfBoundsException" ["java/lang/RuntimeException", "java/lang/Exception"]).filter goodWord ++ (vx_atS RX7 82 "java/lang/IllegalArgumentException" ["java/lang/RuntimeException", "java/lang/Exception"]).filter goodWord ++ (vx_atM "java/lang/ArrayIndexOutOfBoundsException" ["java/lang/IndexOutOfBoundsException", "java/lang/RuntimeException", "java/lang/Exception"]).filter goodWord)
def wsX7_kiosk : List Cond := .code yX7_kiosk cX7_kiosk 1 (some .int) :: ([.classLink RX7 48 "java/lang/IllegalStateException", .initialized "java/lang/IllegalStateException", .fieldLink RX7 99 "KioskReel" "kioskCount" "I"] ++ wsX70 ++ (vx_atS RX7 52 "java/lang/IllegalStateException" ["java/lang/RuntimeException", "java/lang/Exception"]).filter goodWord)
def wsX7_checkKiosk : List Cond := .code yX7_checkKiosk cX7_checkKiosk 2 none :: ([.classLink RX7 62 "java/lang/IndexOutOfBoundsException", .initialized "java/lang/IndexOutOfBoundsException", .fieldLink RX7 99 "KioskReel" "kioskCount" "I"] ++ wsX70 ++ (vx_atS RX7 66 "java/lang/IndexOutOfBoundsException" ["java/lang/RuntimeException", "java/lang/Exception"]).filter goodWord)
def wsX7_isNotOut : List Cond := .code yX7_isNotOut cX7_isNotOut 2 (some .boolean) :: ([.fieldLink RX7 99 "KioskReel" "kioskCount" "I", .fieldLink RX7 17 "KioskReel" "kiosks" "[LKioskReel$Kiosk;", .fieldLink RX7 152 "KioskReel$Kiosk" "out" "Z"] ++ wsX70 ++ wsX10)
def wsX7_nearestNotOut : List Cond := .code yX7_nearestNotOut cX7_nearestNotOut 3 (some .int) :: ([.fieldLink RX7 99 "KioskReel" "kioskCount" "I", .methodLink RX7 352 yX7_isNotOut, .instanceMethod yX7_isNotOut, .selects RX7 yX7_isNotOut yX7_isNotOut, .initialized RX7, .code yX7_isNotOut cX7_isNotOut 2 (some .boolean), .fieldLink RX7 17 "KioskReel" "kiosks" "[LKioskReel$Kiosk;", .fieldLink RX7 152 "KioskReel$Kiosk" "out" "Z"] ++ wsX70 ++ wsX10)
def wsX7_leave : List Cond := .code yX7_leave cX7_leave 3 none :: ([.fieldLink RX7 23 "KioskReel" "players" "[LKioskReel$Player;", .fieldLink RX7 125 "KioskReel$Player" "place" "I", .fieldLink RX7 17 "KioskReel" "kiosks" "[LKioskReel$Kiosk;", .fieldLink RX7 161 "KioskReel$Kiosk" "playing" "LKioskReel$PlayerRow;", .methodLink RX7 141 yX4_remove, .instanceMethod yX4_remove, .selects RX4 yX4_remove yX4_remove, .initialized RX4, .code yX4_remove cX4_remove 4 none, .fieldLink RX4 15 "KioskReel$PlayerRow" "size" "I", .fieldLink RX4 9 "KioskReel$PlayerRow" "members" "[I"] ++ wsX70 ++ wsX30 ++ wsX10 ++ wsX40 ++ (vx_atM "java/lang/ArrayIndexOutOfBoundsException" ["java/lang/IndexOutOfBoundsException", "java/lang/RuntimeException", "java/lang/Exception"]).filter goodWord)
def wsX7_settle : List Cond := .code yX7_settle cX7_settle 3 none :: ([.fieldLink RX7 23 "KioskReel" "players" "[LKioskReel$Player;", .fieldLink RX7 125 "KioskReel$Player" "place" "I", .fieldLink RX7 17 "KioskReel" "kiosks" "[LKioskReel$Kiosk;", .fieldLink RX7 161 "KioskReel$Kiosk" "playing" "LKioskReel$PlayerRow;", .methodLink RX7 146 yX7_leave, .instanceMethod yX7_leave, .selects RX7 yX7_leave yX7_leave, .initialized RX7, .code yX7_leave cX7_leave 3 none, .methodLink RX7 141 yX4_remove, .instanceMethod yX4_remove, .selects RX4 yX4_remove yX4_remove, .initialized RX4, .code yX4_remove cX4_remove 4 none, .fieldLink RX4 15 "KioskReel$PlayerRow" "size" "I", .fieldLink RX4 9 "KioskReel$PlayerRow" "members" "[I", .methodLink RX7 355 yX4_addFirst, .instanceMethod yX4_addFirst, .selects RX4 yX4_addFirst yX4_addFirst, .code yX4_addFirst cX4_addFirst 3 none, .methodLink RX7 346 yX4_addLast, .instanceMethod yX4_addLast, .selects RX4 yX4_addLast yX4_addLast, .code yX4_addLast cX4_addLast 2 none] ++ wsX70 ++ wsX30 ++ wsX10 ++ wsX40 ++ (vx_atM "java/lang/ArrayIndexOutOfBoundsException" ["java/lang/IndexOutOfBoundsException", "java/lang/RuntimeException", "java/lang/Exception"]).filter goodWord)
def wsX7_start_r1 : List Cond := [Cond.classLink RX7 48 "java/lang/IllegalStateException", Cond.initialized "java/lang/IllegalStateException", Cond.fieldLink RX7 23 "KioskReel" "players" "[LKioskReel$Player;", Cond.fieldLink RX7 107 "KioskReel$Player" "started" "Z", Cond.fieldLink RX7 11 "KioskReel" "reels" "[LKioskReel$Reel;", Cond.fieldLink RX7 125 "KioskReel$Player" "place" "I", Cond.methodLink RX7 104 yX7_checkKiosk, Cond.instanceMethod yX7_checkKiosk, Cond.selects RX7 yX7_checkKiosk yX7_checkKiosk, Cond.initialized RX7, Cond.code yX7_checkKiosk cX7_checkKiosk 2 none, Cond.classLink RX7 62 "java/lang/IndexOutOfBoundsException", Cond.initialized "java/lang/IndexOutOfBoundsException", Cond.fieldLink RX7 99 "KioskReel" "kioskCount" "I", Cond.methodLink RX7 55 yX7_checkList, Cond.instanceMethod yX7_checkList, Cond.selects RX7 yX7_checkList yX7_checkList, Cond.code yX7_checkList cX7_checkList 2 none, Cond.fieldLink RX7 44 "KioskReel" "reelCount" "I", Cond.methodLink RX7 113 yX3_begin, Cond.instanceMethod yX3_begin, Cond.selects RX3 yX3_begin yX3_begin, Cond.initialized RX3, Cond.code yX3_begin cX3_begin 3 none]
def wsX7_start_r2 : List Cond := [Cond.fieldLink RX3 32 "KioskReel$Player" "started" "Z", Cond.fieldLink RX3 36 "KioskReel$Player" "firstList" "I", Cond.fieldLink RX3 39 "KioskReel$Player" "counter" "I", Cond.fieldLink RX3 42 "KioskReel$Player" "ticksToWait" "I", Cond.fieldLink RX3 28 "KioskReel$Player" "awaitedDevice" "I", Cond.methodLink RX3 45 yX3_beginPile, Cond.instanceMethod yX3_beginPile, Cond.selects RX3 yX3_beginPile yX3_beginPile, Cond.code yX3_beginPile cX3_beginPile 2 none, Cond.fieldLink RX3 21 "KioskReel$Player" "height" "I", Cond.methodLink RX3 49 yX3_putOnPile, Cond.instanceMethod yX3_putOnPile, Cond.selects RX3 yX3_putOnPile yX3_putOnPile, Cond.code yX3_putOnPile cX3_putOnPile 2 none, Cond.fieldLink RX3 11 "KioskReel$Player" "pile" "[LKioskReel$Reel;", Cond.fieldLink RX3 17 "KioskReel$Player" "ahead" "[I", Cond.methodLink RX3 52 yX5_copyFrom, Cond.instanceMethod yX5_copyFrom, Cond.selects RX5 yX5_copyFrom yX5_copyFrom, Cond.initialized RX5, Cond.code yX5_copyFrom cX5_copyFrom 3 none, Cond.fieldLink RX5 19 "KioskReel$Reel" "size" "I", Cond.fieldLink RX5 9 "KioskReel$Reel" "kinds" "[C", Cond.fieldLink RX5 15 "KioskReel$Reel" "numbers" "[I"]
def wsX7_start_r3 : List Cond := [Cond.methodLink RX7 117 yX7_nearestNotOut, Cond.instanceMethod yX7_nearestNotOut, Cond.selects RX7 yX7_nearestNotOut yX7_nearestNotOut, Cond.code yX7_nearestNotOut cX7_nearestNotOut 3 (some .int), Cond.methodLink RX7 352 yX7_isNotOut, Cond.instanceMethod yX7_isNotOut, Cond.selects RX7 yX7_isNotOut yX7_isNotOut, Cond.code yX7_isNotOut cX7_isNotOut 2 (some .boolean), Cond.fieldLink RX7 17 "KioskReel" "kiosks" "[LKioskReel$Kiosk;", Cond.fieldLink RX7 152 "KioskReel$Kiosk" "out" "Z", Cond.methodLink RX7 121 yX7_settle, Cond.instanceMethod yX7_settle, Cond.selects RX7 yX7_settle yX7_settle, Cond.code yX7_settle cX7_settle 3 none, Cond.fieldLink RX7 161 "KioskReel$Kiosk" "playing" "LKioskReel$PlayerRow;", Cond.methodLink RX7 146 yX7_leave, Cond.instanceMethod yX7_leave, Cond.selects RX7 yX7_leave yX7_leave, Cond.code yX7_leave cX7_leave 3 none, Cond.methodLink RX7 141 yX4_remove, Cond.instanceMethod yX4_remove, Cond.selects RX4 yX4_remove yX4_remove, Cond.initialized RX4, Cond.code yX4_remove cX4_remove 4 none]
def wsX7_start_r4 : List Cond := [Cond.fieldLink RX4 15 "KioskReel$PlayerRow" "size" "I", Cond.fieldLink RX4 9 "KioskReel$PlayerRow" "members" "[I", Cond.methodLink RX7 355 yX4_addFirst, Cond.instanceMethod yX4_addFirst, Cond.selects RX4 yX4_addFirst yX4_addFirst, Cond.code yX4_addFirst cX4_addFirst 3 none, Cond.methodLink RX7 346 yX4_addLast, Cond.instanceMethod yX4_addLast, Cond.selects RX4 yX4_addLast yX4_addLast, Cond.code yX4_addLast cX4_addLast 2 none]
def wsX7_start : List Cond := .code yX7_start cX7_start 4 (some .int) :: ((wsX7_start_r1 ++ (wsX7_start_r2 ++ (wsX7_start_r3 ++ wsX7_start_r4))) ++ wsX70 ++ wsX30 ++ wsX50 ++ wsX10 ++ wsX40 ++ (vx_atS RX7 52 "java/lang/IllegalStateException" ["java/lang/RuntimeException", "java/lang/Exception"]).filter goodWord ++ (vx_atS RX7 66 "java/lang/IndexOutOfBoundsException" ["java/lang/RuntimeException", "java/lang/Exception"]).filter goodWord ++ (vx_atM "java/lang/ArrayIndexOutOfBoundsException" ["java/lang/IndexOutOfBoundsException", "java/lang/RuntimeException", "java/lang/Exception"]).filter goodWord)
def wsX7_checkPlayer : List Cond := .code yX7_checkPlayer cX7_checkPlayer 2 none :: ([.classLink RX7 165 "java/util/NoSuchElementException", .initialized "java/util/NoSuchElementException", .fieldLink RX7 23 "KioskReel" "players" "[LKioskReel$Player;", .fieldLink RX7 107 "KioskReel$Player" "started" "Z", .methodLink RX7 104 yX7_checkKiosk, .instanceMethod yX7_checkKiosk, .selects RX7 yX7_checkKiosk yX7_checkKiosk, .initialized RX7, .code yX7_checkKiosk cX7_checkKiosk 2 none, .classLink RX7 62 "java/lang/IndexOutOfBoundsException", .initialized "java/lang/IndexOutOfBoundsException", .fieldLink RX7 99 "KioskReel" "kioskCount" "I"] ++ wsX70 ++ wsX30 ++ (nx_atS RX7 169 "java/util/NoSuchElementException" ["java/lang/RuntimeException", "java/lang/Exception"]).filter goodWord ++ (vx_atS RX7 66 "java/lang/IndexOutOfBoundsException" ["java/lang/RuntimeException", "java/lang/Exception"]).filter goodWord)
def wsX7_passOn : List Cond := .code yX7_passOn cX7_passOn 3 none :: ([.fieldLink RX7 29 "KioskReel" "devices" "[LKioskReel$Device;", .fieldLink RX7 131 "KioskReel$Device" "owner" "I", .fieldLink RX7 137 "KioskReel$Device" "queue" "LKioskReel$PlayerRow;", .fieldLink RX7 164 "KioskReel$PlayerRow" "size" "I", .fieldLink RX7 170 "KioskReel$PlayerRow" "members" "[I", .fieldLink RX7 23 "KioskReel" "players" "[LKioskReel$Player;", .fieldLink RX7 184 "KioskReel$Player" "awaitedDevice" "I", .methodLink RX7 141 yX4_remove, .instanceMethod yX4_remove, .selects RX4 yX4_remove yX4_remove, .initialized RX4, .code yX4_remove cX4_remove 4 none, .fieldLink RX4 15 "KioskReel$PlayerRow" "size" "I", .fieldLink RX4 9 "KioskReel$PlayerRow" "members" "[I"] ++ wsX70 ++ wsX00 ++ wsX40 ++ wsX30 ++ (vx_atM "java/lang/ArrayIndexOutOfBoundsException" ["java/lang/IndexOutOfBoundsException", "java/lang/RuntimeException", "java/lang/Exception"]).filter goodWord)
def wsX7_stop_r1 : List Cond := [Cond.fieldLink RX7 29 "KioskReel" "devices" "[LKioskReel$Device;", Cond.fieldLink RX7 131 "KioskReel$Device" "owner" "I", Cond.fieldLink RX7 137 "KioskReel$Device" "queue" "LKioskReel$PlayerRow;", Cond.fieldLink RX7 23 "KioskReel" "players" "[LKioskReel$Player;", Cond.fieldLink RX7 107 "KioskReel$Player" "started" "Z", Cond.methodLink RX7 128 yX7_checkPlayer, Cond.instanceMethod yX7_checkPlayer, Cond.selects RX7 yX7_checkPlayer yX7_checkPlayer, Cond.initialized RX7, Cond.code yX7_checkPlayer cX7_checkPlayer 2 none, Cond.classLink RX7 165 "java/util/NoSuchElementException", Cond.initialized "java/util/NoSuchElementException", Cond.methodLink RX7 104 yX7_checkKiosk, Cond.instanceMethod yX7_checkKiosk, Cond.selects RX7 yX7_checkKiosk yX7_checkKiosk, Cond.code yX7_checkKiosk cX7_checkKiosk 2 none, Cond.classLink RX7 62 "java/lang/IndexOutOfBoundsException", Cond.initialized "java/lang/IndexOutOfBoundsException", Cond.fieldLink RX7 99 "KioskReel" "kioskCount" "I", Cond.methodLink RX7 134 yX7_passOn, Cond.instanceMethod yX7_passOn, Cond.selects RX7 yX7_passOn yX7_passOn, Cond.code yX7_passOn cX7_passOn 3 none, Cond.fieldLink RX7 164 "KioskReel$PlayerRow" "size" "I"]
def wsX7_stop_r2 : List Cond := [Cond.fieldLink RX7 170 "KioskReel$PlayerRow" "members" "[I", Cond.fieldLink RX7 184 "KioskReel$Player" "awaitedDevice" "I", Cond.methodLink RX7 141 yX4_remove, Cond.instanceMethod yX4_remove, Cond.selects RX4 yX4_remove yX4_remove, Cond.initialized RX4, Cond.code yX4_remove cX4_remove 4 none, Cond.fieldLink RX4 15 "KioskReel$PlayerRow" "size" "I", Cond.fieldLink RX4 9 "KioskReel$PlayerRow" "members" "[I", Cond.methodLink RX7 146 yX7_leave, Cond.instanceMethod yX7_leave, Cond.selects RX7 yX7_leave yX7_leave, Cond.code yX7_leave cX7_leave 3 none, Cond.fieldLink RX7 125 "KioskReel$Player" "place" "I", Cond.fieldLink RX7 17 "KioskReel" "kiosks" "[LKioskReel$Kiosk;", Cond.fieldLink RX7 161 "KioskReel$Kiosk" "playing" "LKioskReel$PlayerRow;"]
def wsX7_stop : List Cond := .code yX7_stop cX7_stop 4 (some .int) :: ((wsX7_stop_r1 ++ wsX7_stop_r2) ++ wsX70 ++ wsX00 ++ wsX30 ++ wsX40 ++ wsX10 ++ (nx_atS RX7 169 "java/util/NoSuchElementException" ["java/lang/RuntimeException", "java/lang/Exception"]).filter goodWord ++ (vx_atS RX7 66 "java/lang/IndexOutOfBoundsException" ["java/lang/RuntimeException", "java/lang/Exception"]).filter goodWord ++ (vx_atM "java/lang/ArrayIndexOutOfBoundsException" ["java/lang/IndexOutOfBoundsException", "java/lang/RuntimeException", "java/lang/Exception"]).filter goodWord)
def wsX7_freeze : List Cond := .code yX7_freeze cX7_freeze 3 (some .boolean) :: ([.fieldLink RX7 17 "KioskReel" "kiosks" "[LKioskReel$Kiosk;", .fieldLink RX7 149 "KioskReel$Kiosk" "frozen" "Z", .methodLink RX7 104 yX7_checkKiosk, .instanceMethod yX7_checkKiosk, .selects RX7 yX7_checkKiosk yX7_checkKiosk, .initialized RX7, .code yX7_checkKiosk cX7_checkKiosk 2 none, .classLink RX7 62 "java/lang/IndexOutOfBoundsException", .initialized "java/lang/IndexOutOfBoundsException", .fieldLink RX7 99 "KioskReel" "kioskCount" "I"] ++ wsX70 ++ wsX10 ++ (vx_atS RX7 66 "java/lang/IndexOutOfBoundsException" ["java/lang/RuntimeException", "java/lang/Exception"]).filter goodWord)
def wsX7_gather_r1 : List Cond := [Cond.fieldLink RX7 23 "KioskReel" "players" "[LKioskReel$Player;", Cond.fieldLink RX7 107 "KioskReel$Player" "started" "Z", Cond.fieldLink RX7 99 "KioskReel" "kioskCount" "I", Cond.fieldLink RX7 125 "KioskReel$Player" "place" "I", Cond.methodLink RX7 121 yX7_settle, Cond.instanceMethod yX7_settle, Cond.selects RX7 yX7_settle yX7_settle, Cond.initialized RX7, Cond.code yX7_settle cX7_settle 3 none, Cond.fieldLink RX7 17 "KioskReel" "kiosks" "[LKioskReel$Kiosk;", Cond.fieldLink RX7 161 "KioskReel$Kiosk" "playing" "LKioskReel$PlayerRow;", Cond.methodLink RX7 146 yX7_leave, Cond.instanceMethod yX7_leave, Cond.selects RX7 yX7_leave yX7_leave, Cond.code yX7_leave cX7_leave 3 none, Cond.methodLink RX7 141 yX4_remove, Cond.instanceMethod yX4_remove, Cond.selects RX4 yX4_remove yX4_remove, Cond.initialized RX4, Cond.code yX4_remove cX4_remove 4 none, Cond.fieldLink RX4 15 "KioskReel$PlayerRow" "size" "I", Cond.fieldLink RX4 9 "KioskReel$PlayerRow" "members" "[I", Cond.methodLink RX7 355 yX4_addFirst, Cond.instanceMethod yX4_addFirst]
def wsX7_gather_r2 : List Cond := [Cond.selects RX4 yX4_addFirst yX4_addFirst, Cond.code yX4_addFirst cX4_addFirst 3 none, Cond.methodLink RX7 346 yX4_addLast, Cond.instanceMethod yX4_addLast, Cond.selects RX4 yX4_addLast yX4_addLast, Cond.code yX4_addLast cX4_addLast 2 none]
def wsX7_gather : List Cond := .code yX7_gather cX7_gather 4 (some .int) :: ((wsX7_gather_r1 ++ wsX7_gather_r2) ++ wsX70 ++ wsX30 ++ wsX10 ++ wsX40 ++ (vx_atM "java/lang/ArrayIndexOutOfBoundsException" ["java/lang/IndexOutOfBoundsException", "java/lang/RuntimeException", "java/lang/Exception"]).filter goodWord)
def wsX7_thaw_r1 : List Cond := [Cond.fieldLink RX7 17 "KioskReel" "kiosks" "[LKioskReel$Kiosk;", Cond.fieldLink RX7 152 "KioskReel$Kiosk" "out" "Z", Cond.fieldLink RX7 149 "KioskReel$Kiosk" "frozen" "Z", Cond.fieldLink RX7 155 "KioskReel$Kiosk" "frozenTicks" "I", Cond.methodLink RX7 104 yX7_checkKiosk, Cond.instanceMethod yX7_checkKiosk, Cond.selects RX7 yX7_checkKiosk yX7_checkKiosk, Cond.initialized RX7, Cond.code yX7_checkKiosk cX7_checkKiosk 2 none, Cond.classLink RX7 62 "java/lang/IndexOutOfBoundsException", Cond.initialized "java/lang/IndexOutOfBoundsException", Cond.fieldLink RX7 99 "KioskReel" "kioskCount" "I", Cond.methodLink RX7 158 yX7_gather, Cond.instanceMethod yX7_gather, Cond.selects RX7 yX7_gather yX7_gather, Cond.code yX7_gather cX7_gather 4 (some .int), Cond.fieldLink RX7 23 "KioskReel" "players" "[LKioskReel$Player;", Cond.fieldLink RX7 107 "KioskReel$Player" "started" "Z", Cond.fieldLink RX7 125 "KioskReel$Player" "place" "I", Cond.methodLink RX7 121 yX7_settle, Cond.instanceMethod yX7_settle, Cond.selects RX7 yX7_settle yX7_settle, Cond.code yX7_settle cX7_settle 3 none, Cond.fieldLink RX7 161 "KioskReel$Kiosk" "playing" "LKioskReel$PlayerRow;"]
def wsX7_thaw_r2 : List Cond := [Cond.methodLink RX7 146 yX7_leave, Cond.instanceMethod yX7_leave, Cond.selects RX7 yX7_leave yX7_leave, Cond.code yX7_leave cX7_leave 3 none, Cond.methodLink RX7 141 yX4_remove, Cond.instanceMethod yX4_remove, Cond.selects RX4 yX4_remove yX4_remove, Cond.initialized RX4, Cond.code yX4_remove cX4_remove 4 none, Cond.fieldLink RX4 15 "KioskReel$PlayerRow" "size" "I", Cond.fieldLink RX4 9 "KioskReel$PlayerRow" "members" "[I", Cond.methodLink RX7 355 yX4_addFirst, Cond.instanceMethod yX4_addFirst, Cond.selects RX4 yX4_addFirst yX4_addFirst, Cond.code yX4_addFirst cX4_addFirst 3 none, Cond.methodLink RX7 346 yX4_addLast, Cond.instanceMethod yX4_addLast, Cond.selects RX4 yX4_addLast yX4_addLast, Cond.code yX4_addLast cX4_addLast 2 none]
def wsX7_thaw : List Cond := .code yX7_thaw cX7_thaw 4 (some .int) :: ((wsX7_thaw_r1 ++ wsX7_thaw_r2) ++ wsX70 ++ wsX10 ++ wsX30 ++ wsX40 ++ (vx_atS RX7 66 "java/lang/IndexOutOfBoundsException" ["java/lang/RuntimeException", "java/lang/Exception"]).filter goodWord ++ (vx_atM "java/lang/ArrayIndexOutOfBoundsException" ["java/lang/IndexOutOfBoundsException", "java/lang/RuntimeException", "java/lang/Exception"]).filter goodWord)
def wsX7_state : List Cond := .code yX7_state cX7_state 2 (some .char) :: ([.fieldLink RX7 17 "KioskReel" "kiosks" "[LKioskReel$Kiosk;", .fieldLink RX7 152 "KioskReel$Kiosk" "out" "Z", .fieldLink RX7 149 "KioskReel$Kiosk" "frozen" "Z", .methodLink RX7 104 yX7_checkKiosk, .instanceMethod yX7_checkKiosk, .selects RX7 yX7_checkKiosk yX7_checkKiosk, .initialized RX7, .code yX7_checkKiosk cX7_checkKiosk 2 none, .classLink RX7 62 "java/lang/IndexOutOfBoundsException", .initialized "java/lang/IndexOutOfBoundsException", .fieldLink RX7 99 "KioskReel" "kioskCount" "I"] ++ wsX70 ++ wsX10 ++ (vx_atS RX7 66 "java/lang/IndexOutOfBoundsException" ["java/lang/RuntimeException", "java/lang/Exception"]).filter goodWord)
def wsX7_plays : List Cond := .code yX7_plays cX7_plays 2 (some .int) :: ([.fieldLink RX7 23 "KioskReel" "players" "[LKioskReel$Player;", .fieldLink RX7 125 "KioskReel$Player" "place" "I", .methodLink RX7 128 yX7_checkPlayer, .instanceMethod yX7_checkPlayer, .selects RX7 yX7_checkPlayer yX7_checkPlayer, .initialized RX7, .code yX7_checkPlayer cX7_checkPlayer 2 none, .classLink RX7 165 "java/util/NoSuchElementException", .initialized "java/util/NoSuchElementException", .fieldLink RX7 107 "KioskReel$Player" "started" "Z", .methodLink RX7 104 yX7_checkKiosk, .instanceMethod yX7_checkKiosk, .selects RX7 yX7_checkKiosk yX7_checkKiosk, .code yX7_checkKiosk cX7_checkKiosk 2 none, .classLink RX7 62 "java/lang/IndexOutOfBoundsException", .initialized "java/lang/IndexOutOfBoundsException", .fieldLink RX7 99 "KioskReel" "kioskCount" "I"] ++ wsX70 ++ wsX30 ++ (nx_atS RX7 169 "java/util/NoSuchElementException" ["java/lang/RuntimeException", "java/lang/Exception"]).filter goodWord ++ (vx_atS RX7 66 "java/lang/IndexOutOfBoundsException" ["java/lang/RuntimeException", "java/lang/Exception"]).filter goodWord)
def wsX7_playerAt : List Cond := .code yX7_playerAt cX7_playerAt 4 (some .int) :: ([.classLink RX7 165 "java/util/NoSuchElementException", .initialized "java/util/NoSuchElementException", .fieldLink RX7 17 "KioskReel" "kiosks" "[LKioskReel$Kiosk;", .fieldLink RX7 161 "KioskReel$Kiosk" "playing" "LKioskReel$PlayerRow;", .fieldLink RX7 164 "KioskReel$PlayerRow" "size" "I", .fieldLink RX7 170 "KioskReel$PlayerRow" "members" "[I", .methodLink RX7 104 yX7_checkKiosk, .instanceMethod yX7_checkKiosk, .selects RX7 yX7_checkKiosk yX7_checkKiosk, .initialized RX7, .code yX7_checkKiosk cX7_checkKiosk 2 none, .classLink RX7 62 "java/lang/IndexOutOfBoundsException", .initialized "java/lang/IndexOutOfBoundsException", .fieldLink RX7 99 "KioskReel" "kioskCount" "I"] ++ wsX70 ++ wsX10 ++ wsX40 ++ (nx_atS RX7 169 "java/util/NoSuchElementException" ["java/lang/RuntimeException", "java/lang/Exception"]).filter goodWord ++ (vx_atM "java/lang/ArrayIndexOutOfBoundsException" ["java/lang/IndexOutOfBoundsException", "java/lang/RuntimeException", "java/lang/Exception"]).filter goodWord ++ (vx_atS RX7 66 "java/lang/IndexOutOfBoundsException" ["java/lang/RuntimeException", "java/lang/Exception"]).filter goodWord)
def wsX7_next : List Cond := .code yX7_next cX7_next 3 (some .int) :: ([.fieldLink RX7 23 "KioskReel" "players" "[LKioskReel$Player;", .fieldLink RX7 174 "KioskReel$Player" "height" "I", .methodLink RX7 128 yX7_checkPlayer, .instanceMethod yX7_checkPlayer, .selects RX7 yX7_checkPlayer yX7_checkPlayer, .initialized RX7, .code yX7_checkPlayer cX7_checkPlayer 2 none, .classLink RX7 165 "java/util/NoSuchElementException", .initialized "java/util/NoSuchElementException", .fieldLink RX7 107 "KioskReel$Player" "started" "Z", .methodLink RX7 104 yX7_checkKiosk, .instanceMethod yX7_checkKiosk, .selects RX7 yX7_checkKiosk yX7_checkKiosk, .code yX7_checkKiosk cX7_checkKiosk 2 none, .classLink RX7 62 "java/lang/IndexOutOfBoundsException", .initialized "java/lang/IndexOutOfBoundsException", .fieldLink RX7 99 "KioskReel" "kioskCount" "I", .methodLink RX7 177 yX3_lineAhead, .instanceMethod yX3_lineAhead, .selects RX3 yX3_lineAhead yX3_lineAhead, .initialized RX3, .code yX3_lineAhead cX3_lineAhead 1 (some .int), .fieldLink RX3 17 "KioskReel$Player" "ahead" "[I", .fieldLink RX3 21 "KioskReel$Player" "height" "I"] ++ wsX70 ++ wsX30 ++ (nx_atS RX7 169 "java/util/NoSuchElementException" ["java/lang/RuntimeException", "java/lang/Exception"]).filter goodWord ++ (vx_atS RX7 66 "java/lang/IndexOutOfBoundsException" ["java/lang/RuntimeException", "java/lang/Exception"]).filter goodWord ++ (vx_atM "java/lang/ArrayIndexOutOfBoundsException" ["java/lang/IndexOutOfBoundsException", "java/lang/RuntimeException", "java/lang/Exception"]).filter goodWord)
def wsX7_count : List Cond := .code yX7_count cX7_count 2 (some .int) :: ([.fieldLink RX7 23 "KioskReel" "players" "[LKioskReel$Player;", .fieldLink RX7 181 "KioskReel$Player" "counter" "I", .methodLink RX7 128 yX7_checkPlayer, .instanceMethod yX7_checkPlayer, .selects RX7 yX7_checkPlayer yX7_checkPlayer, .initialized RX7, .code yX7_checkPlayer cX7_checkPlayer 2 none, .classLink RX7 165 "java/util/NoSuchElementException", .initialized "java/util/NoSuchElementException", .fieldLink RX7 107 "KioskReel$Player" "started" "Z", .methodLink RX7 104 yX7_checkKiosk, .instanceMethod yX7_checkKiosk, .selects RX7 yX7_checkKiosk yX7_checkKiosk, .code yX7_checkKiosk cX7_checkKiosk 2 none, .classLink RX7 62 "java/lang/IndexOutOfBoundsException", .initialized "java/lang/IndexOutOfBoundsException", .fieldLink RX7 99 "KioskReel" "kioskCount" "I"] ++ wsX70 ++ wsX30 ++ (nx_atS RX7 169 "java/util/NoSuchElementException" ["java/lang/RuntimeException", "java/lang/Exception"]).filter goodWord ++ (vx_atS RX7 66 "java/lang/IndexOutOfBoundsException" ["java/lang/RuntimeException", "java/lang/Exception"]).filter goodWord)
def wsX7_waits : List Cond := .code yX7_waits cX7_waits 3 (some .int) :: ([.fieldLink RX7 23 "KioskReel" "players" "[LKioskReel$Player;", .fieldLink RX7 184 "KioskReel$Player" "awaitedDevice" "I", .fieldLink RX7 187 "KioskReel$Player" "ticksToWait" "I", .methodLink RX7 128 yX7_checkPlayer, .instanceMethod yX7_checkPlayer, .selects RX7 yX7_checkPlayer yX7_checkPlayer, .initialized RX7, .code yX7_checkPlayer cX7_checkPlayer 2 none, .classLink RX7 165 "java/util/NoSuchElementException", .initialized "java/util/NoSuchElementException", .fieldLink RX7 107 "KioskReel$Player" "started" "Z", .methodLink RX7 104 yX7_checkKiosk, .instanceMethod yX7_checkKiosk, .selects RX7 yX7_checkKiosk yX7_checkKiosk, .code yX7_checkKiosk cX7_checkKiosk 2 none, .classLink RX7 62 "java/lang/IndexOutOfBoundsException", .initialized "java/lang/IndexOutOfBoundsException", .fieldLink RX7 99 "KioskReel" "kioskCount" "I"] ++ wsX70 ++ wsX30 ++ (nx_atS RX7 169 "java/util/NoSuchElementException" ["java/lang/RuntimeException", "java/lang/Exception"]).filter goodWord ++ (vx_atS RX7 66 "java/lang/IndexOutOfBoundsException" ["java/lang/RuntimeException", "java/lang/Exception"]).filter goodWord)
def wsX7_hasVisitor : List Cond := .code yX7_hasVisitor cX7_hasVisitor 3 (some .boolean) :: ([.fieldLink RX7 208 "KioskReel" "visitorCount" "I", .fieldLink RX7 35 "KioskReel" "visitors" "[LKioskReel$Visitor;", .fieldLink RX7 216 "KioskReel$Visitor" "place" "I"] ++ wsX70 ++ wsX60)
def wsX7_show : List Cond := .code yX7_show cX7_show 6 (some (.object "KioskReel$Outcome")) :: ([.fieldLink RX7 208 "KioskReel" "visitorCount" "I", .fieldLink RX7 35 "KioskReel" "visitors" "[LKioskReel$Visitor;", .fieldLink RX7 216 "KioskReel$Visitor" "place" "I", .fieldLink RX7 276 "KioskReel$Outcome" "GOES_ON" "LKioskReel$Outcome;", .fieldLink RX7 17 "KioskReel" "kiosks" "[LKioskReel$Kiosk;", .fieldLink RX7 198 "KioskReel$Kiosk" "lastSlide" "I", .fieldLink RX7 286 "KioskReel$Outcome" "SHOWN" "LKioskReel$Outcome;", .methodLink RX7 337 yX6_wouldSee, .instanceMethod yX6_wouldSee, .selects RX6 yX6_wouldSee yX6_wouldSee, .initialized RX6, .code yX6_wouldSee cX6_wouldSee 2 (some .boolean), .fieldLink RX6 9 "KioskReel$Visitor" "timesSeen" "[I", .fieldLink RX6 18 "KioskReel$Visitor" "wants" "[Z", .methodLink RX7 340 yX6_see, .instanceMethod yX6_see, .selects RX6 yX6_see yX6_see, .code yX6_see cX6_see 2 none, .methodLink RX7 333 yX7_hasVisitor, .instanceMethod yX7_hasVisitor, .selects RX7 yX7_hasVisitor yX7_hasVisitor, .initialized RX7, .code yX7_hasVisitor cX7_hasVisitor 3 (some .boolean)] ++ wsX70 ++ wsX60 ++ wsX10 ++ (vx_atM "java/lang/ArrayIndexOutOfBoundsException" ["java/lang/IndexOutOfBoundsException", "java/lang/RuntimeException", "java/lang/Exception"]).filter goodWord)
def wsX7_devicesOf : List Cond := .code yX7_devicesOf cX7_devicesOf 4 (some .int) :: ([.fieldLink RX7 29 "KioskReel" "devices" "[LKioskReel$Device;", .fieldLink RX7 131 "KioskReel$Device" "owner" "I"] ++ wsX70 ++ wsX00)
def wsX7_lease : List Cond := .code yX7_lease cX7_lease 5 (some (.object "KioskReel$Outcome")) :: ([.fieldLink RX7 29 "KioskReel" "devices" "[LKioskReel$Device;", .fieldLink RX7 131 "KioskReel$Device" "owner" "I", .fieldLink RX7 276 "KioskReel$Outcome" "GOES_ON" "LKioskReel$Outcome;", .fieldLink RX7 137 "KioskReel$Device" "queue" "LKioskReel$PlayerRow;", .fieldLink RX7 184 "KioskReel$Player" "awaitedDevice" "I", .fieldLink RX7 319 "KioskReel$Outcome" "ENDS_TURN" "LKioskReel$Outcome;", .methodLink RX7 343 yX7_devicesOf, .instanceMethod yX7_devicesOf, .selects RX7 yX7_devicesOf yX7_devicesOf, .initialized RX7, .code yX7_devicesOf cX7_devicesOf 4 (some .int), .methodLink RX7 346 yX4_addLast, .instanceMethod yX4_addLast, .selects RX4 yX4_addLast yX4_addLast, .initialized RX4, .code yX4_addLast cX4_addLast 2 none, .fieldLink RX4 15 "KioskReel$PlayerRow" "size" "I", .fieldLink RX4 9 "KioskReel$PlayerRow" "members" "[I"] ++ wsX70 ++ wsX00 ++ wsX30 ++ wsX40 ++ (vx_atM "java/lang/ArrayIndexOutOfBoundsException" ["java/lang/IndexOutOfBoundsException", "java/lang/RuntimeException", "java/lang/Exception"]).filter goodWord)
def wsX7_branch : List Cond := .code yX7_branch cX7_branch 4 none :: ([.fieldLink RX7 181 "KioskReel$Player" "counter" "I", .fieldLink RX7 125 "KioskReel$Player" "place" "I", .methodLink RX7 333 yX7_hasVisitor, .instanceMethod yX7_hasVisitor, .selects RX7 yX7_hasVisitor yX7_hasVisitor, .initialized RX7, .code yX7_hasVisitor cX7_hasVisitor 3 (some .boolean), .fieldLink RX7 208 "KioskReel" "visitorCount" "I", .fieldLink RX7 35 "KioskReel" "visitors" "[LKioskReel$Visitor;", .fieldLink RX7 216 "KioskReel$Visitor" "place" "I", .methodLink RX7 305 yX3_goOnAt, .instanceMethod yX3_goOnAt, .selects RX3 yX3_goOnAt yX3_goOnAt, .initialized RX3, .code yX3_goOnAt cX3_goOnAt 2 none, .fieldLink RX3 17 "KioskReel$Player" "ahead" "[I", .fieldLink RX3 21 "KioskReel$Player" "height" "I"] ++ wsX30 ++ wsX70 ++ wsX60 ++ (vx_atM "java/lang/ArrayIndexOutOfBoundsException" ["java/lang/IndexOutOfBoundsException", "java/lang/RuntimeException", "java/lang/Exception"]).filter goodWord)
def wsX7_obey_r1 : List Cond := [Cond.fieldLink RX7 125 "KioskReel$Player" "place" "I", Cond.fieldLink RX7 187 "KioskReel$Player" "ticksToWait" "I", Cond.fieldLink RX7 319 "KioskReel$Outcome" "ENDS_TURN" "LKioskReel$Outcome;", Cond.fieldLink RX7 29 "KioskReel" "devices" "[LKioskReel$Device;", Cond.fieldLink RX7 131 "KioskReel$Device" "owner" "I", Cond.fieldLink RX7 276 "KioskReel$Outcome" "GOES_ON" "LKioskReel$Outcome;", Cond.fieldLink RX7 44 "KioskReel" "reelCount" "I", Cond.fieldLink RX7 11 "KioskReel" "reels" "[LKioskReel$Reel;", Cond.fieldLink RX7 181 "KioskReel$Player" "counter" "I", Cond.methodLink RX7 315 yX7_show, Cond.instanceMethod yX7_show, Cond.selects RX7 yX7_show yX7_show, Cond.initialized RX7, Cond.code yX7_show cX7_show 6 (some (.object "KioskReel$Outcome")), Cond.fieldLink RX7 208 "KioskReel" "visitorCount" "I", Cond.fieldLink RX7 35 "KioskReel" "visitors" "[LKioskReel$Visitor;", Cond.fieldLink RX7 216 "KioskReel$Visitor" "place" "I", Cond.fieldLink RX7 17 "KioskReel" "kiosks" "[LKioskReel$Kiosk;", Cond.fieldLink RX7 198 "KioskReel$Kiosk" "lastSlide" "I", Cond.fieldLink RX7 286 "KioskReel$Outcome" "SHOWN" "LKioskReel$Outcome;", Cond.methodLink RX7 337 yX6_wouldSee, Cond.instanceMethod yX6_wouldSee, Cond.selects RX6 yX6_wouldSee yX6_wouldSee, Cond.initialized RX6]
def wsX7_obey_r2 : List Cond := [Cond.code yX6_wouldSee cX6_wouldSee 2 (some .boolean), Cond.fieldLink RX6 9 "KioskReel$Visitor" "timesSeen" "[I", Cond.fieldLink RX6 18 "KioskReel$Visitor" "wants" "[Z", Cond.methodLink RX7 340 yX6_see, Cond.instanceMethod yX6_see, Cond.selects RX6 yX6_see yX6_see, Cond.code yX6_see cX6_see 2 none, Cond.methodLink RX7 333 yX7_hasVisitor, Cond.instanceMethod yX7_hasVisitor, Cond.selects RX7 yX7_hasVisitor yX7_hasVisitor, Cond.code yX7_hasVisitor cX7_hasVisitor 3 (some .boolean), Cond.methodLink RX7 322 yX7_lease, Cond.instanceMethod yX7_lease, Cond.selects RX7 yX7_lease yX7_lease, Cond.code yX7_lease cX7_lease 5 (some (.object "KioskReel$Outcome")), Cond.fieldLink RX7 137 "KioskReel$Device" "queue" "LKioskReel$PlayerRow;", Cond.fieldLink RX7 184 "KioskReel$Player" "awaitedDevice" "I", Cond.methodLink RX7 343 yX7_devicesOf, Cond.instanceMethod yX7_devicesOf, Cond.selects RX7 yX7_devicesOf yX7_devicesOf, Cond.code yX7_devicesOf cX7_devicesOf 4 (some .int), Cond.methodLink RX7 346 yX4_addLast, Cond.instanceMethod yX4_addLast, Cond.selects RX4 yX4_addLast yX4_addLast]
def wsX7_obey_r3 : List Cond := [Cond.initialized RX4, Cond.code yX4_addLast cX4_addLast 2 none, Cond.fieldLink RX4 15 "KioskReel$PlayerRow" "size" "I", Cond.fieldLink RX4 9 "KioskReel$PlayerRow" "members" "[I", Cond.methodLink RX7 134 yX7_passOn, Cond.instanceMethod yX7_passOn, Cond.selects RX7 yX7_passOn yX7_passOn, Cond.code yX7_passOn cX7_passOn 3 none, Cond.fieldLink RX7 164 "KioskReel$PlayerRow" "size" "I", Cond.fieldLink RX7 170 "KioskReel$PlayerRow" "members" "[I", Cond.fieldLink RX7 23 "KioskReel" "players" "[LKioskReel$Player;", Cond.methodLink RX7 141 yX4_remove, Cond.instanceMethod yX4_remove, Cond.selects RX4 yX4_remove yX4_remove, Cond.code yX4_remove cX4_remove 4 none, Cond.methodLink RX7 326 yX3_putOnPile, Cond.instanceMethod yX3_putOnPile, Cond.selects RX3 yX3_putOnPile yX3_putOnPile, Cond.initialized RX3, Cond.code yX3_putOnPile cX3_putOnPile 2 none, Cond.fieldLink RX3 21 "KioskReel$Player" "height" "I", Cond.fieldLink RX3 11 "KioskReel$Player" "pile" "[LKioskReel$Reel;", Cond.fieldLink RX3 17 "KioskReel$Player" "ahead" "[I", Cond.methodLink RX3 52 yX5_copyFrom]
def wsX7_obey_r4 : List Cond := [Cond.instanceMethod yX5_copyFrom, Cond.selects RX5 yX5_copyFrom yX5_copyFrom, Cond.initialized RX5, Cond.code yX5_copyFrom cX5_copyFrom 3 none, Cond.fieldLink RX5 19 "KioskReel$Reel" "size" "I", Cond.fieldLink RX5 9 "KioskReel$Reel" "kinds" "[C", Cond.fieldLink RX5 15 "KioskReel$Reel" "numbers" "[I", Cond.methodLink RX7 329 yX7_branch, Cond.instanceMethod yX7_branch, Cond.selects RX7 yX7_branch yX7_branch, Cond.code yX7_branch cX7_branch 4 none, Cond.methodLink RX7 305 yX3_goOnAt, Cond.instanceMethod yX3_goOnAt, Cond.selects RX3 yX3_goOnAt yX3_goOnAt, Cond.code yX3_goOnAt cX3_goOnAt 2 none]
def wsX7_obey : List Cond := .code yX7_obey cX7_obey 5 (some (.object "KioskReel$Outcome")) :: ((wsX7_obey_r1 ++ (wsX7_obey_r2 ++ (wsX7_obey_r3 ++ wsX7_obey_r4))) ++ wsX30 ++ wsX70 ++ wsX00 ++ wsX60 ++ wsX10 ++ wsX40 ++ wsX50 ++ (vx_atM "java/lang/ArrayIndexOutOfBoundsException" ["java/lang/IndexOutOfBoundsException", "java/lang/RuntimeException", "java/lang/Exception"]).filter goodWord)
def wsX7_doLine_r1 : List Cond := [Cond.fieldLink RX7 230 "KioskReel" "linesDone" "J", Cond.fieldLink RX7 11 "KioskReel" "reels" "[LKioskReel$Reel;", Cond.fieldLink RX7 295 "KioskReel$Player" "firstList" "I", Cond.fieldLink RX7 276 "KioskReel$Outcome" "GOES_ON" "LKioskReel$Outcome;", Cond.fieldLink RX7 302 "KioskReel$Player" "pile" "[LKioskReel$Reel;", Cond.fieldLink RX7 174 "KioskReel$Player" "height" "I", Cond.fieldLink RX7 89 "KioskReel$Reel" "kinds" "[C", Cond.fieldLink RX7 308 "KioskReel$Reel" "numbers" "[I", Cond.methodLink RX7 289 yX3_takeEndedFromPile, Cond.instanceMethod yX3_takeEndedFromPile, Cond.selects RX3 yX3_takeEndedFromPile yX3_takeEndedFromPile, Cond.initialized RX3, Cond.code yX3_takeEndedFromPile cX3_takeEndedFromPile 1 none, Cond.fieldLink RX3 21 "KioskReel$Player" "height" "I", Cond.methodLink RX3 55 yX3_isAtEnd, Cond.instanceMethod yX3_isAtEnd, Cond.selects RX3 yX3_isAtEnd yX3_isAtEnd, Cond.code yX3_isAtEnd cX3_isAtEnd 1 (some .boolean), Cond.fieldLink RX3 11 "KioskReel$Player" "pile" "[LKioskReel$Reel;", Cond.fieldLink RX3 63 "KioskReel$Reel" "size" "I", Cond.methodLink RX3 59 yX3_lineAhead, Cond.instanceMethod yX3_lineAhead, Cond.selects RX3 yX3_lineAhead yX3_lineAhead, Cond.code yX3_lineAhead cX3_lineAhead 1 (some .int)]
def wsX7_doLine_r2 : List Cond := [Cond.fieldLink RX3 17 "KioskReel$Player" "ahead" "[I", Cond.methodLink RX7 292 yX3_isAtEnd, Cond.methodLink RX7 298 yX3_beginPile, Cond.instanceMethod yX3_beginPile, Cond.selects RX3 yX3_beginPile yX3_beginPile, Cond.code yX3_beginPile cX3_beginPile 2 none, Cond.methodLink RX3 49 yX3_putOnPile, Cond.instanceMethod yX3_putOnPile, Cond.selects RX3 yX3_putOnPile yX3_putOnPile, Cond.code yX3_putOnPile cX3_putOnPile 2 none, Cond.methodLink RX3 52 yX5_copyFrom, Cond.instanceMethod yX5_copyFrom, Cond.selects RX5 yX5_copyFrom yX5_copyFrom, Cond.initialized RX5, Cond.code yX5_copyFrom cX5_copyFrom 3 none, Cond.fieldLink RX5 19 "KioskReel$Reel" "size" "I", Cond.fieldLink RX5 9 "KioskReel$Reel" "kinds" "[C", Cond.fieldLink RX5 15 "KioskReel$Reel" "numbers" "[I", Cond.methodLink RX7 177 yX3_lineAhead, Cond.methodLink RX7 305 yX3_goOnAt, Cond.instanceMethod yX3_goOnAt, Cond.selects RX3 yX3_goOnAt yX3_goOnAt, Cond.code yX3_goOnAt cX3_goOnAt 2 none, Cond.methodLink RX7 311 yX7_obey]
def wsX7_doLine_r3 : List Cond := [Cond.instanceMethod yX7_obey, Cond.selects RX7 yX7_obey yX7_obey, Cond.initialized RX7, Cond.code yX7_obey cX7_obey 5 (some (.object "KioskReel$Outcome")), Cond.fieldLink RX7 125 "KioskReel$Player" "place" "I", Cond.fieldLink RX7 187 "KioskReel$Player" "ticksToWait" "I", Cond.fieldLink RX7 319 "KioskReel$Outcome" "ENDS_TURN" "LKioskReel$Outcome;", Cond.fieldLink RX7 29 "KioskReel" "devices" "[LKioskReel$Device;", Cond.fieldLink RX7 131 "KioskReel$Device" "owner" "I", Cond.fieldLink RX7 44 "KioskReel" "reelCount" "I", Cond.fieldLink RX7 181 "KioskReel$Player" "counter" "I", Cond.methodLink RX7 315 yX7_show, Cond.instanceMethod yX7_show, Cond.selects RX7 yX7_show yX7_show, Cond.code yX7_show cX7_show 6 (some (.object "KioskReel$Outcome")), Cond.fieldLink RX7 208 "KioskReel" "visitorCount" "I", Cond.fieldLink RX7 35 "KioskReel" "visitors" "[LKioskReel$Visitor;", Cond.fieldLink RX7 216 "KioskReel$Visitor" "place" "I", Cond.fieldLink RX7 17 "KioskReel" "kiosks" "[LKioskReel$Kiosk;", Cond.fieldLink RX7 198 "KioskReel$Kiosk" "lastSlide" "I", Cond.fieldLink RX7 286 "KioskReel$Outcome" "SHOWN" "LKioskReel$Outcome;", Cond.methodLink RX7 337 yX6_wouldSee, Cond.instanceMethod yX6_wouldSee, Cond.selects RX6 yX6_wouldSee yX6_wouldSee]
def wsX7_doLine_r4 : List Cond := [Cond.initialized RX6, Cond.code yX6_wouldSee cX6_wouldSee 2 (some .boolean), Cond.fieldLink RX6 9 "KioskReel$Visitor" "timesSeen" "[I", Cond.fieldLink RX6 18 "KioskReel$Visitor" "wants" "[Z", Cond.methodLink RX7 340 yX6_see, Cond.instanceMethod yX6_see, Cond.selects RX6 yX6_see yX6_see, Cond.code yX6_see cX6_see 2 none, Cond.methodLink RX7 333 yX7_hasVisitor, Cond.instanceMethod yX7_hasVisitor, Cond.selects RX7 yX7_hasVisitor yX7_hasVisitor, Cond.code yX7_hasVisitor cX7_hasVisitor 3 (some .boolean), Cond.methodLink RX7 322 yX7_lease, Cond.instanceMethod yX7_lease, Cond.selects RX7 yX7_lease yX7_lease, Cond.code yX7_lease cX7_lease 5 (some (.object "KioskReel$Outcome")), Cond.fieldLink RX7 137 "KioskReel$Device" "queue" "LKioskReel$PlayerRow;", Cond.fieldLink RX7 184 "KioskReel$Player" "awaitedDevice" "I", Cond.methodLink RX7 343 yX7_devicesOf, Cond.instanceMethod yX7_devicesOf, Cond.selects RX7 yX7_devicesOf yX7_devicesOf, Cond.code yX7_devicesOf cX7_devicesOf 4 (some .int), Cond.methodLink RX7 346 yX4_addLast, Cond.instanceMethod yX4_addLast]
def wsX7_doLine_r5 : List Cond := [Cond.selects RX4 yX4_addLast yX4_addLast, Cond.initialized RX4, Cond.code yX4_addLast cX4_addLast 2 none, Cond.fieldLink RX4 15 "KioskReel$PlayerRow" "size" "I", Cond.fieldLink RX4 9 "KioskReel$PlayerRow" "members" "[I", Cond.methodLink RX7 134 yX7_passOn, Cond.instanceMethod yX7_passOn, Cond.selects RX7 yX7_passOn yX7_passOn, Cond.code yX7_passOn cX7_passOn 3 none, Cond.fieldLink RX7 164 "KioskReel$PlayerRow" "size" "I", Cond.fieldLink RX7 170 "KioskReel$PlayerRow" "members" "[I", Cond.fieldLink RX7 23 "KioskReel" "players" "[LKioskReel$Player;", Cond.methodLink RX7 141 yX4_remove, Cond.instanceMethod yX4_remove, Cond.selects RX4 yX4_remove yX4_remove, Cond.code yX4_remove cX4_remove 4 none, Cond.methodLink RX7 326 yX3_putOnPile, Cond.methodLink RX7 329 yX7_branch, Cond.instanceMethod yX7_branch, Cond.selects RX7 yX7_branch yX7_branch, Cond.code yX7_branch cX7_branch 4 none]
def wsX7_doLine : List Cond := .code yX7_doLine cX7_doLine 5 (some (.object "KioskReel$Outcome")) :: ((wsX7_doLine_r1 ++ (wsX7_doLine_r2 ++ (wsX7_doLine_r3 ++ (wsX7_doLine_r4 ++ wsX7_doLine_r5)))) ++ wsX70 ++ wsX30 ++ wsX50 ++ wsX00 ++ wsX60 ++ wsX10 ++ wsX40 ++ (vx_atM "java/lang/ArrayIndexOutOfBoundsException" ["java/lang/IndexOutOfBoundsException", "java/lang/RuntimeException", "java/lang/Exception"]).filter goodWord)
def wsX7_takeTurn_r1 : List Cond := [Cond.fieldLink RX7 187 "KioskReel$Player" "ticksToWait" "I", Cond.fieldLink RX7 184 "KioskReel$Player" "awaitedDevice" "I", Cond.fieldLink RX7 276 "KioskReel$Outcome" "GOES_ON" "LKioskReel$Outcome;", Cond.fieldLink RX7 286 "KioskReel$Outcome" "SHOWN" "LKioskReel$Outcome;", Cond.methodLink RX7 282 yX7_doLine, Cond.instanceMethod yX7_doLine, Cond.selects RX7 yX7_doLine yX7_doLine, Cond.initialized RX7, Cond.code yX7_doLine cX7_doLine 5 (some (.object "KioskReel$Outcome")), Cond.fieldLink RX7 230 "KioskReel" "linesDone" "J", Cond.fieldLink RX7 11 "KioskReel" "reels" "[LKioskReel$Reel;", Cond.fieldLink RX7 295 "KioskReel$Player" "firstList" "I", Cond.fieldLink RX7 302 "KioskReel$Player" "pile" "[LKioskReel$Reel;", Cond.fieldLink RX7 174 "KioskReel$Player" "height" "I", Cond.fieldLink RX7 89 "KioskReel$Reel" "kinds" "[C", Cond.fieldLink RX7 308 "KioskReel$Reel" "numbers" "[I", Cond.methodLink RX7 289 yX3_takeEndedFromPile, Cond.instanceMethod yX3_takeEndedFromPile, Cond.selects RX3 yX3_takeEndedFromPile yX3_takeEndedFromPile, Cond.initialized RX3, Cond.code yX3_takeEndedFromPile cX3_takeEndedFromPile 1 none, Cond.fieldLink RX3 21 "KioskReel$Player" "height" "I", Cond.methodLink RX3 55 yX3_isAtEnd, Cond.instanceMethod yX3_isAtEnd]
def wsX7_takeTurn_r2 : List Cond := [Cond.selects RX3 yX3_isAtEnd yX3_isAtEnd, Cond.code yX3_isAtEnd cX3_isAtEnd 1 (some .boolean), Cond.fieldLink RX3 11 "KioskReel$Player" "pile" "[LKioskReel$Reel;", Cond.fieldLink RX3 63 "KioskReel$Reel" "size" "I", Cond.methodLink RX3 59 yX3_lineAhead, Cond.instanceMethod yX3_lineAhead, Cond.selects RX3 yX3_lineAhead yX3_lineAhead, Cond.code yX3_lineAhead cX3_lineAhead 1 (some .int), Cond.fieldLink RX3 17 "KioskReel$Player" "ahead" "[I", Cond.methodLink RX7 292 yX3_isAtEnd, Cond.methodLink RX7 298 yX3_beginPile, Cond.instanceMethod yX3_beginPile, Cond.selects RX3 yX3_beginPile yX3_beginPile, Cond.code yX3_beginPile cX3_beginPile 2 none, Cond.methodLink RX3 49 yX3_putOnPile, Cond.instanceMethod yX3_putOnPile, Cond.selects RX3 yX3_putOnPile yX3_putOnPile, Cond.code yX3_putOnPile cX3_putOnPile 2 none, Cond.methodLink RX3 52 yX5_copyFrom, Cond.instanceMethod yX5_copyFrom, Cond.selects RX5 yX5_copyFrom yX5_copyFrom, Cond.initialized RX5, Cond.code yX5_copyFrom cX5_copyFrom 3 none, Cond.fieldLink RX5 19 "KioskReel$Reel" "size" "I"]
def wsX7_takeTurn_r3 : List Cond := [Cond.fieldLink RX5 9 "KioskReel$Reel" "kinds" "[C", Cond.fieldLink RX5 15 "KioskReel$Reel" "numbers" "[I", Cond.methodLink RX7 177 yX3_lineAhead, Cond.methodLink RX7 305 yX3_goOnAt, Cond.instanceMethod yX3_goOnAt, Cond.selects RX3 yX3_goOnAt yX3_goOnAt, Cond.code yX3_goOnAt cX3_goOnAt 2 none, Cond.methodLink RX7 311 yX7_obey, Cond.instanceMethod yX7_obey, Cond.selects RX7 yX7_obey yX7_obey, Cond.code yX7_obey cX7_obey 5 (some (.object "KioskReel$Outcome")), Cond.fieldLink RX7 125 "KioskReel$Player" "place" "I", Cond.fieldLink RX7 319 "KioskReel$Outcome" "ENDS_TURN" "LKioskReel$Outcome;", Cond.fieldLink RX7 29 "KioskReel" "devices" "[LKioskReel$Device;", Cond.fieldLink RX7 131 "KioskReel$Device" "owner" "I", Cond.fieldLink RX7 44 "KioskReel" "reelCount" "I", Cond.fieldLink RX7 181 "KioskReel$Player" "counter" "I", Cond.methodLink RX7 315 yX7_show, Cond.instanceMethod yX7_show, Cond.selects RX7 yX7_show yX7_show, Cond.code yX7_show cX7_show 6 (some (.object "KioskReel$Outcome")), Cond.fieldLink RX7 208 "KioskReel" "visitorCount" "I", Cond.fieldLink RX7 35 "KioskReel" "visitors" "[LKioskReel$Visitor;", Cond.fieldLink RX7 216 "KioskReel$Visitor" "place" "I"]
def wsX7_takeTurn_r4 : List Cond := [Cond.fieldLink RX7 17 "KioskReel" "kiosks" "[LKioskReel$Kiosk;", Cond.fieldLink RX7 198 "KioskReel$Kiosk" "lastSlide" "I", Cond.methodLink RX7 337 yX6_wouldSee, Cond.instanceMethod yX6_wouldSee, Cond.selects RX6 yX6_wouldSee yX6_wouldSee, Cond.initialized RX6, Cond.code yX6_wouldSee cX6_wouldSee 2 (some .boolean), Cond.fieldLink RX6 9 "KioskReel$Visitor" "timesSeen" "[I", Cond.fieldLink RX6 18 "KioskReel$Visitor" "wants" "[Z", Cond.methodLink RX7 340 yX6_see, Cond.instanceMethod yX6_see, Cond.selects RX6 yX6_see yX6_see, Cond.code yX6_see cX6_see 2 none, Cond.methodLink RX7 333 yX7_hasVisitor, Cond.instanceMethod yX7_hasVisitor, Cond.selects RX7 yX7_hasVisitor yX7_hasVisitor, Cond.code yX7_hasVisitor cX7_hasVisitor 3 (some .boolean), Cond.methodLink RX7 322 yX7_lease, Cond.instanceMethod yX7_lease, Cond.selects RX7 yX7_lease yX7_lease, Cond.code yX7_lease cX7_lease 5 (some (.object "KioskReel$Outcome")), Cond.fieldLink RX7 137 "KioskReel$Device" "queue" "LKioskReel$PlayerRow;", Cond.methodLink RX7 343 yX7_devicesOf, Cond.instanceMethod yX7_devicesOf]
def wsX7_takeTurn_r5 : List Cond := [Cond.selects RX7 yX7_devicesOf yX7_devicesOf, Cond.code yX7_devicesOf cX7_devicesOf 4 (some .int), Cond.methodLink RX7 346 yX4_addLast, Cond.instanceMethod yX4_addLast, Cond.selects RX4 yX4_addLast yX4_addLast, Cond.initialized RX4, Cond.code yX4_addLast cX4_addLast 2 none, Cond.fieldLink RX4 15 "KioskReel$PlayerRow" "size" "I", Cond.fieldLink RX4 9 "KioskReel$PlayerRow" "members" "[I", Cond.methodLink RX7 134 yX7_passOn, Cond.instanceMethod yX7_passOn, Cond.selects RX7 yX7_passOn yX7_passOn, Cond.code yX7_passOn cX7_passOn 3 none, Cond.fieldLink RX7 164 "KioskReel$PlayerRow" "size" "I", Cond.fieldLink RX7 170 "KioskReel$PlayerRow" "members" "[I", Cond.fieldLink RX7 23 "KioskReel" "players" "[LKioskReel$Player;", Cond.methodLink RX7 141 yX4_remove, Cond.instanceMethod yX4_remove, Cond.selects RX4 yX4_remove yX4_remove, Cond.code yX4_remove cX4_remove 4 none, Cond.methodLink RX7 326 yX3_putOnPile, Cond.methodLink RX7 329 yX7_branch, Cond.instanceMethod yX7_branch, Cond.selects RX7 yX7_branch yX7_branch]
def wsX7_takeTurn_r6 : List Cond := [Cond.code yX7_branch cX7_branch 4 none]
def wsX7_takeTurn : List Cond := .code yX7_takeTurn cX7_takeTurn 5 (some .int) :: ((wsX7_takeTurn_r1 ++ (wsX7_takeTurn_r2 ++ (wsX7_takeTurn_r3 ++ (wsX7_takeTurn_r4 ++ (wsX7_takeTurn_r5 ++ wsX7_takeTurn_r6))))) ++ wsX30 ++ wsX70 ++ wsX50 ++ wsX00 ++ wsX60 ++ wsX10 ++ wsX40 ++ (vx_atM "java/lang/ArrayIndexOutOfBoundsException" ["java/lang/IndexOutOfBoundsException", "java/lang/RuntimeException", "java/lang/Exception"]).filter goodWord)
def wsX7_playOneTick_r1 : List Cond := [Cond.fieldLink RX7 99 "KioskReel" "kioskCount" "I", Cond.fieldLink RX7 17 "KioskReel" "kiosks" "[LKioskReel$Kiosk;", Cond.fieldLink RX7 149 "KioskReel$Kiosk" "frozen" "Z", Cond.fieldLink RX7 161 "KioskReel$Kiosk" "playing" "LKioskReel$PlayerRow;", Cond.fieldLink RX7 164 "KioskReel$PlayerRow" "size" "I", Cond.fieldLink RX7 23 "KioskReel" "players" "[LKioskReel$Player;", Cond.fieldLink RX7 170 "KioskReel$PlayerRow" "members" "[I", Cond.methodLink RX7 272 yX7_takeTurn, Cond.instanceMethod yX7_takeTurn, Cond.selects RX7 yX7_takeTurn yX7_takeTurn, Cond.initialized RX7, Cond.code yX7_takeTurn cX7_takeTurn 5 (some .int), Cond.fieldLink RX7 187 "KioskReel$Player" "ticksToWait" "I", Cond.fieldLink RX7 184 "KioskReel$Player" "awaitedDevice" "I", Cond.fieldLink RX7 276 "KioskReel$Outcome" "GOES_ON" "LKioskReel$Outcome;", Cond.fieldLink RX7 286 "KioskReel$Outcome" "SHOWN" "LKioskReel$Outcome;", Cond.methodLink RX7 282 yX7_doLine, Cond.instanceMethod yX7_doLine, Cond.selects RX7 yX7_doLine yX7_doLine, Cond.code yX7_doLine cX7_doLine 5 (some (.object "KioskReel$Outcome")), Cond.fieldLink RX7 230 "KioskReel" "linesDone" "J", Cond.fieldLink RX7 11 "KioskReel" "reels" "[LKioskReel$Reel;", Cond.fieldLink RX7 295 "KioskReel$Player" "firstList" "I", Cond.fieldLink RX7 302 "KioskReel$Player" "pile" "[LKioskReel$Reel;"]
def wsX7_playOneTick_r2 : List Cond := [Cond.fieldLink RX7 174 "KioskReel$Player" "height" "I", Cond.fieldLink RX7 89 "KioskReel$Reel" "kinds" "[C", Cond.fieldLink RX7 308 "KioskReel$Reel" "numbers" "[I", Cond.methodLink RX7 289 yX3_takeEndedFromPile, Cond.instanceMethod yX3_takeEndedFromPile, Cond.selects RX3 yX3_takeEndedFromPile yX3_takeEndedFromPile, Cond.initialized RX3, Cond.code yX3_takeEndedFromPile cX3_takeEndedFromPile 1 none, Cond.fieldLink RX3 21 "KioskReel$Player" "height" "I", Cond.methodLink RX3 55 yX3_isAtEnd, Cond.instanceMethod yX3_isAtEnd, Cond.selects RX3 yX3_isAtEnd yX3_isAtEnd, Cond.code yX3_isAtEnd cX3_isAtEnd 1 (some .boolean), Cond.fieldLink RX3 11 "KioskReel$Player" "pile" "[LKioskReel$Reel;", Cond.fieldLink RX3 63 "KioskReel$Reel" "size" "I", Cond.methodLink RX3 59 yX3_lineAhead, Cond.instanceMethod yX3_lineAhead, Cond.selects RX3 yX3_lineAhead yX3_lineAhead, Cond.code yX3_lineAhead cX3_lineAhead 1 (some .int), Cond.fieldLink RX3 17 "KioskReel$Player" "ahead" "[I", Cond.methodLink RX7 292 yX3_isAtEnd, Cond.methodLink RX7 298 yX3_beginPile, Cond.instanceMethod yX3_beginPile, Cond.selects RX3 yX3_beginPile yX3_beginPile]
def wsX7_playOneTick_r3 : List Cond := [Cond.code yX3_beginPile cX3_beginPile 2 none, Cond.methodLink RX3 49 yX3_putOnPile, Cond.instanceMethod yX3_putOnPile, Cond.selects RX3 yX3_putOnPile yX3_putOnPile, Cond.code yX3_putOnPile cX3_putOnPile 2 none, Cond.methodLink RX3 52 yX5_copyFrom, Cond.instanceMethod yX5_copyFrom, Cond.selects RX5 yX5_copyFrom yX5_copyFrom, Cond.initialized RX5, Cond.code yX5_copyFrom cX5_copyFrom 3 none, Cond.fieldLink RX5 19 "KioskReel$Reel" "size" "I", Cond.fieldLink RX5 9 "KioskReel$Reel" "kinds" "[C", Cond.fieldLink RX5 15 "KioskReel$Reel" "numbers" "[I", Cond.methodLink RX7 177 yX3_lineAhead, Cond.methodLink RX7 305 yX3_goOnAt, Cond.instanceMethod yX3_goOnAt, Cond.selects RX3 yX3_goOnAt yX3_goOnAt, Cond.code yX3_goOnAt cX3_goOnAt 2 none, Cond.methodLink RX7 311 yX7_obey, Cond.instanceMethod yX7_obey, Cond.selects RX7 yX7_obey yX7_obey, Cond.code yX7_obey cX7_obey 5 (some (.object "KioskReel$Outcome")), Cond.fieldLink RX7 125 "KioskReel$Player" "place" "I", Cond.fieldLink RX7 319 "KioskReel$Outcome" "ENDS_TURN" "LKioskReel$Outcome;"]
def wsX7_playOneTick_r4 : List Cond := [Cond.fieldLink RX7 29 "KioskReel" "devices" "[LKioskReel$Device;", Cond.fieldLink RX7 131 "KioskReel$Device" "owner" "I", Cond.fieldLink RX7 44 "KioskReel" "reelCount" "I", Cond.fieldLink RX7 181 "KioskReel$Player" "counter" "I", Cond.methodLink RX7 315 yX7_show, Cond.instanceMethod yX7_show, Cond.selects RX7 yX7_show yX7_show, Cond.code yX7_show cX7_show 6 (some (.object "KioskReel$Outcome")), Cond.fieldLink RX7 208 "KioskReel" "visitorCount" "I", Cond.fieldLink RX7 35 "KioskReel" "visitors" "[LKioskReel$Visitor;", Cond.fieldLink RX7 216 "KioskReel$Visitor" "place" "I", Cond.fieldLink RX7 198 "KioskReel$Kiosk" "lastSlide" "I", Cond.methodLink RX7 337 yX6_wouldSee, Cond.instanceMethod yX6_wouldSee, Cond.selects RX6 yX6_wouldSee yX6_wouldSee, Cond.initialized RX6, Cond.code yX6_wouldSee cX6_wouldSee 2 (some .boolean), Cond.fieldLink RX6 9 "KioskReel$Visitor" "timesSeen" "[I", Cond.fieldLink RX6 18 "KioskReel$Visitor" "wants" "[Z", Cond.methodLink RX7 340 yX6_see, Cond.instanceMethod yX6_see, Cond.selects RX6 yX6_see yX6_see, Cond.code yX6_see cX6_see 2 none, Cond.methodLink RX7 333 yX7_hasVisitor]
def wsX7_playOneTick_r5 : List Cond := [Cond.instanceMethod yX7_hasVisitor, Cond.selects RX7 yX7_hasVisitor yX7_hasVisitor, Cond.code yX7_hasVisitor cX7_hasVisitor 3 (some .boolean), Cond.methodLink RX7 322 yX7_lease, Cond.instanceMethod yX7_lease, Cond.selects RX7 yX7_lease yX7_lease, Cond.code yX7_lease cX7_lease 5 (some (.object "KioskReel$Outcome")), Cond.fieldLink RX7 137 "KioskReel$Device" "queue" "LKioskReel$PlayerRow;", Cond.methodLink RX7 343 yX7_devicesOf, Cond.instanceMethod yX7_devicesOf, Cond.selects RX7 yX7_devicesOf yX7_devicesOf, Cond.code yX7_devicesOf cX7_devicesOf 4 (some .int), Cond.methodLink RX7 346 yX4_addLast, Cond.instanceMethod yX4_addLast, Cond.selects RX4 yX4_addLast yX4_addLast, Cond.initialized RX4, Cond.code yX4_addLast cX4_addLast 2 none, Cond.fieldLink RX4 15 "KioskReel$PlayerRow" "size" "I", Cond.fieldLink RX4 9 "KioskReel$PlayerRow" "members" "[I", Cond.methodLink RX7 134 yX7_passOn, Cond.instanceMethod yX7_passOn, Cond.selects RX7 yX7_passOn yX7_passOn, Cond.code yX7_passOn cX7_passOn 3 none, Cond.methodLink RX7 141 yX4_remove]
def wsX7_playOneTick_r6 : List Cond := [Cond.instanceMethod yX4_remove, Cond.selects RX4 yX4_remove yX4_remove, Cond.code yX4_remove cX4_remove 4 none, Cond.methodLink RX7 326 yX3_putOnPile, Cond.methodLink RX7 329 yX7_branch, Cond.instanceMethod yX7_branch, Cond.selects RX7 yX7_branch yX7_branch, Cond.code yX7_branch cX7_branch 4 none]
def wsX7_playOneTick : List Cond := .code yX7_playOneTick cX7_playOneTick 5 (some .int) :: ((wsX7_playOneTick_r1 ++ (wsX7_playOneTick_r2 ++ (wsX7_playOneTick_r3 ++ (wsX7_playOneTick_r4 ++ (wsX7_playOneTick_r5 ++ wsX7_playOneTick_r6))))) ++ wsX70 ++ wsX10 ++ wsX40 ++ wsX30 ++ wsX50 ++ wsX00 ++ wsX60 ++ (vx_atM "java/lang/ArrayIndexOutOfBoundsException" ["java/lang/IndexOutOfBoundsException", "java/lang/RuntimeException", "java/lang/Exception"]).filter goodWord)
def wsX7_makeOut_r1 : List Cond := [Cond.fieldLink RX7 17 "KioskReel" "kiosks" "[LKioskReel$Kiosk;", Cond.fieldLink RX7 152 "KioskReel$Kiosk" "out" "Z", Cond.fieldLink RX7 161 "KioskReel$Kiosk" "playing" "LKioskReel$PlayerRow;", Cond.fieldLink RX7 164 "KioskReel$PlayerRow" "size" "I", Cond.fieldLink RX7 170 "KioskReel$PlayerRow" "members" "[I", Cond.methodLink RX7 117 yX7_nearestNotOut, Cond.instanceMethod yX7_nearestNotOut, Cond.selects RX7 yX7_nearestNotOut yX7_nearestNotOut, Cond.initialized RX7, Cond.code yX7_nearestNotOut cX7_nearestNotOut 3 (some .int), Cond.fieldLink RX7 99 "KioskReel" "kioskCount" "I", Cond.methodLink RX7 352 yX7_isNotOut, Cond.instanceMethod yX7_isNotOut, Cond.selects RX7 yX7_isNotOut yX7_isNotOut, Cond.code yX7_isNotOut cX7_isNotOut 2 (some .boolean), Cond.methodLink RX7 121 yX7_settle, Cond.instanceMethod yX7_settle, Cond.selects RX7 yX7_settle yX7_settle, Cond.code yX7_settle cX7_settle 3 none, Cond.fieldLink RX7 23 "KioskReel" "players" "[LKioskReel$Player;", Cond.fieldLink RX7 125 "KioskReel$Player" "place" "I", Cond.methodLink RX7 146 yX7_leave, Cond.instanceMethod yX7_leave, Cond.selects RX7 yX7_leave yX7_leave]
def wsX7_makeOut_r2 : List Cond := [Cond.code yX7_leave cX7_leave 3 none, Cond.methodLink RX7 141 yX4_remove, Cond.instanceMethod yX4_remove, Cond.selects RX4 yX4_remove yX4_remove, Cond.initialized RX4, Cond.code yX4_remove cX4_remove 4 none, Cond.fieldLink RX4 15 "KioskReel$PlayerRow" "size" "I", Cond.fieldLink RX4 9 "KioskReel$PlayerRow" "members" "[I", Cond.methodLink RX7 355 yX4_addFirst, Cond.instanceMethod yX4_addFirst, Cond.selects RX4 yX4_addFirst yX4_addFirst, Cond.code yX4_addFirst cX4_addFirst 3 none, Cond.methodLink RX7 346 yX4_addLast, Cond.instanceMethod yX4_addLast, Cond.selects RX4 yX4_addLast yX4_addLast, Cond.code yX4_addLast cX4_addLast 2 none]
def wsX7_makeOut : List Cond := .code yX7_makeOut cX7_makeOut 6 none :: ((wsX7_makeOut_r1 ++ wsX7_makeOut_r2) ++ wsX70 ++ wsX10 ++ wsX40 ++ wsX30 ++ (vx_atM "java/lang/ArrayIndexOutOfBoundsException" ["java/lang/IndexOutOfBoundsException", "java/lang/RuntimeException", "java/lang/Exception"]).filter goodWord)
def wsX7_watchFrozenKiosks_r1 : List Cond := [Cond.fieldLink RX7 99 "KioskReel" "kioskCount" "I", Cond.fieldLink RX7 17 "KioskReel" "kiosks" "[LKioskReel$Kiosk;", Cond.fieldLink RX7 149 "KioskReel$Kiosk" "frozen" "Z", Cond.fieldLink RX7 152 "KioskReel$Kiosk" "out" "Z", Cond.fieldLink RX7 155 "KioskReel$Kiosk" "frozenTicks" "I", Cond.methodLink RX7 349 yX7_makeOut, Cond.instanceMethod yX7_makeOut, Cond.selects RX7 yX7_makeOut yX7_makeOut, Cond.initialized RX7, Cond.code yX7_makeOut cX7_makeOut 6 none, Cond.fieldLink RX7 161 "KioskReel$Kiosk" "playing" "LKioskReel$PlayerRow;", Cond.fieldLink RX7 164 "KioskReel$PlayerRow" "size" "I", Cond.fieldLink RX7 170 "KioskReel$PlayerRow" "members" "[I", Cond.methodLink RX7 117 yX7_nearestNotOut, Cond.instanceMethod yX7_nearestNotOut, Cond.selects RX7 yX7_nearestNotOut yX7_nearestNotOut, Cond.code yX7_nearestNotOut cX7_nearestNotOut 3 (some .int), Cond.methodLink RX7 352 yX7_isNotOut, Cond.instanceMethod yX7_isNotOut, Cond.selects RX7 yX7_isNotOut yX7_isNotOut, Cond.code yX7_isNotOut cX7_isNotOut 2 (some .boolean), Cond.methodLink RX7 121 yX7_settle, Cond.instanceMethod yX7_settle, Cond.selects RX7 yX7_settle yX7_settle]
def wsX7_watchFrozenKiosks_r2 : List Cond := [Cond.code yX7_settle cX7_settle 3 none, Cond.fieldLink RX7 23 "KioskReel" "players" "[LKioskReel$Player;", Cond.fieldLink RX7 125 "KioskReel$Player" "place" "I", Cond.methodLink RX7 146 yX7_leave, Cond.instanceMethod yX7_leave, Cond.selects RX7 yX7_leave yX7_leave, Cond.code yX7_leave cX7_leave 3 none, Cond.methodLink RX7 141 yX4_remove, Cond.instanceMethod yX4_remove, Cond.selects RX4 yX4_remove yX4_remove, Cond.initialized RX4, Cond.code yX4_remove cX4_remove 4 none, Cond.fieldLink RX4 15 "KioskReel$PlayerRow" "size" "I", Cond.fieldLink RX4 9 "KioskReel$PlayerRow" "members" "[I", Cond.methodLink RX7 355 yX4_addFirst, Cond.instanceMethod yX4_addFirst, Cond.selects RX4 yX4_addFirst yX4_addFirst, Cond.code yX4_addFirst cX4_addFirst 3 none, Cond.methodLink RX7 346 yX4_addLast, Cond.instanceMethod yX4_addLast, Cond.selects RX4 yX4_addLast yX4_addLast, Cond.code yX4_addLast cX4_addLast 2 none]
def wsX7_watchFrozenKiosks : List Cond := .code yX7_watchFrozenKiosks cX7_watchFrozenKiosks 3 none :: ((wsX7_watchFrozenKiosks_r1 ++ wsX7_watchFrozenKiosks_r2) ++ wsX70 ++ wsX10 ++ wsX40 ++ wsX30 ++ (vx_atM "java/lang/ArrayIndexOutOfBoundsException" ["java/lang/IndexOutOfBoundsException", "java/lang/RuntimeException", "java/lang/Exception"]).filter goodWord)
def wsX7_tick_r1 : List Cond := [Cond.classLink RX7 78 "java/lang/IllegalArgumentException", Cond.initialized "java/lang/IllegalArgumentException", Cond.methodLink RX7 192 yX7_playOneTick, Cond.instanceMethod yX7_playOneTick, Cond.selects RX7 yX7_playOneTick yX7_playOneTick, Cond.initialized RX7, Cond.code yX7_playOneTick cX7_playOneTick 5 (some .int), Cond.fieldLink RX7 99 "KioskReel" "kioskCount" "I", Cond.fieldLink RX7 17 "KioskReel" "kiosks" "[LKioskReel$Kiosk;", Cond.fieldLink RX7 149 "KioskReel$Kiosk" "frozen" "Z", Cond.fieldLink RX7 161 "KioskReel$Kiosk" "playing" "LKioskReel$PlayerRow;", Cond.fieldLink RX7 164 "KioskReel$PlayerRow" "size" "I", Cond.fieldLink RX7 23 "KioskReel" "players" "[LKioskReel$Player;", Cond.fieldLink RX7 170 "KioskReel$PlayerRow" "members" "[I", Cond.methodLink RX7 272 yX7_takeTurn, Cond.instanceMethod yX7_takeTurn, Cond.selects RX7 yX7_takeTurn yX7_takeTurn, Cond.code yX7_takeTurn cX7_takeTurn 5 (some .int), Cond.fieldLink RX7 187 "KioskReel$Player" "ticksToWait" "I", Cond.fieldLink RX7 184 "KioskReel$Player" "awaitedDevice" "I", Cond.fieldLink RX7 276 "KioskReel$Outcome" "GOES_ON" "LKioskReel$Outcome;", Cond.fieldLink RX7 286 "KioskReel$Outcome" "SHOWN" "LKioskReel$Outcome;", Cond.methodLink RX7 282 yX7_doLine, Cond.instanceMethod yX7_doLine]
def wsX7_tick_r2 : List Cond := [Cond.selects RX7 yX7_doLine yX7_doLine, Cond.code yX7_doLine cX7_doLine 5 (some (.object "KioskReel$Outcome")), Cond.fieldLink RX7 230 "KioskReel" "linesDone" "J", Cond.fieldLink RX7 11 "KioskReel" "reels" "[LKioskReel$Reel;", Cond.fieldLink RX7 295 "KioskReel$Player" "firstList" "I", Cond.fieldLink RX7 302 "KioskReel$Player" "pile" "[LKioskReel$Reel;", Cond.fieldLink RX7 174 "KioskReel$Player" "height" "I", Cond.fieldLink RX7 89 "KioskReel$Reel" "kinds" "[C", Cond.fieldLink RX7 308 "KioskReel$Reel" "numbers" "[I", Cond.methodLink RX7 289 yX3_takeEndedFromPile, Cond.instanceMethod yX3_takeEndedFromPile, Cond.selects RX3 yX3_takeEndedFromPile yX3_takeEndedFromPile, Cond.initialized RX3, Cond.code yX3_takeEndedFromPile cX3_takeEndedFromPile 1 none, Cond.fieldLink RX3 21 "KioskReel$Player" "height" "I", Cond.methodLink RX3 55 yX3_isAtEnd, Cond.instanceMethod yX3_isAtEnd, Cond.selects RX3 yX3_isAtEnd yX3_isAtEnd, Cond.code yX3_isAtEnd cX3_isAtEnd 1 (some .boolean), Cond.fieldLink RX3 11 "KioskReel$Player" "pile" "[LKioskReel$Reel;", Cond.fieldLink RX3 63 "KioskReel$Reel" "size" "I", Cond.methodLink RX3 59 yX3_lineAhead, Cond.instanceMethod yX3_lineAhead, Cond.selects RX3 yX3_lineAhead yX3_lineAhead]
def wsX7_tick_r3 : List Cond := [Cond.code yX3_lineAhead cX3_lineAhead 1 (some .int), Cond.fieldLink RX3 17 "KioskReel$Player" "ahead" "[I", Cond.methodLink RX7 292 yX3_isAtEnd, Cond.methodLink RX7 298 yX3_beginPile, Cond.instanceMethod yX3_beginPile, Cond.selects RX3 yX3_beginPile yX3_beginPile, Cond.code yX3_beginPile cX3_beginPile 2 none, Cond.methodLink RX3 49 yX3_putOnPile, Cond.instanceMethod yX3_putOnPile, Cond.selects RX3 yX3_putOnPile yX3_putOnPile, Cond.code yX3_putOnPile cX3_putOnPile 2 none, Cond.methodLink RX3 52 yX5_copyFrom, Cond.instanceMethod yX5_copyFrom, Cond.selects RX5 yX5_copyFrom yX5_copyFrom, Cond.initialized RX5, Cond.code yX5_copyFrom cX5_copyFrom 3 none, Cond.fieldLink RX5 19 "KioskReel$Reel" "size" "I", Cond.fieldLink RX5 9 "KioskReel$Reel" "kinds" "[C", Cond.fieldLink RX5 15 "KioskReel$Reel" "numbers" "[I", Cond.methodLink RX7 177 yX3_lineAhead, Cond.methodLink RX7 305 yX3_goOnAt, Cond.instanceMethod yX3_goOnAt, Cond.selects RX3 yX3_goOnAt yX3_goOnAt, Cond.code yX3_goOnAt cX3_goOnAt 2 none]
def wsX7_tick_r4 : List Cond := [Cond.methodLink RX7 311 yX7_obey, Cond.instanceMethod yX7_obey, Cond.selects RX7 yX7_obey yX7_obey, Cond.code yX7_obey cX7_obey 5 (some (.object "KioskReel$Outcome")), Cond.fieldLink RX7 125 "KioskReel$Player" "place" "I", Cond.fieldLink RX7 319 "KioskReel$Outcome" "ENDS_TURN" "LKioskReel$Outcome;", Cond.fieldLink RX7 29 "KioskReel" "devices" "[LKioskReel$Device;", Cond.fieldLink RX7 131 "KioskReel$Device" "owner" "I", Cond.fieldLink RX7 44 "KioskReel" "reelCount" "I", Cond.fieldLink RX7 181 "KioskReel$Player" "counter" "I", Cond.methodLink RX7 315 yX7_show, Cond.instanceMethod yX7_show, Cond.selects RX7 yX7_show yX7_show, Cond.code yX7_show cX7_show 6 (some (.object "KioskReel$Outcome")), Cond.fieldLink RX7 208 "KioskReel" "visitorCount" "I", Cond.fieldLink RX7 35 "KioskReel" "visitors" "[LKioskReel$Visitor;", Cond.fieldLink RX7 216 "KioskReel$Visitor" "place" "I", Cond.fieldLink RX7 198 "KioskReel$Kiosk" "lastSlide" "I", Cond.methodLink RX7 337 yX6_wouldSee, Cond.instanceMethod yX6_wouldSee, Cond.selects RX6 yX6_wouldSee yX6_wouldSee, Cond.initialized RX6, Cond.code yX6_wouldSee cX6_wouldSee 2 (some .boolean), Cond.fieldLink RX6 9 "KioskReel$Visitor" "timesSeen" "[I"]
def wsX7_tick_r5 : List Cond := [Cond.fieldLink RX6 18 "KioskReel$Visitor" "wants" "[Z", Cond.methodLink RX7 340 yX6_see, Cond.instanceMethod yX6_see, Cond.selects RX6 yX6_see yX6_see, Cond.code yX6_see cX6_see 2 none, Cond.methodLink RX7 333 yX7_hasVisitor, Cond.instanceMethod yX7_hasVisitor, Cond.selects RX7 yX7_hasVisitor yX7_hasVisitor, Cond.code yX7_hasVisitor cX7_hasVisitor 3 (some .boolean), Cond.methodLink RX7 322 yX7_lease, Cond.instanceMethod yX7_lease, Cond.selects RX7 yX7_lease yX7_lease, Cond.code yX7_lease cX7_lease 5 (some (.object "KioskReel$Outcome")), Cond.fieldLink RX7 137 "KioskReel$Device" "queue" "LKioskReel$PlayerRow;", Cond.methodLink RX7 343 yX7_devicesOf, Cond.instanceMethod yX7_devicesOf, Cond.selects RX7 yX7_devicesOf yX7_devicesOf, Cond.code yX7_devicesOf cX7_devicesOf 4 (some .int), Cond.methodLink RX7 346 yX4_addLast, Cond.instanceMethod yX4_addLast, Cond.selects RX4 yX4_addLast yX4_addLast, Cond.initialized RX4, Cond.code yX4_addLast cX4_addLast 2 none, Cond.fieldLink RX4 15 "KioskReel$PlayerRow" "size" "I"]
def wsX7_tick_r6 : List Cond := [Cond.fieldLink RX4 9 "KioskReel$PlayerRow" "members" "[I", Cond.methodLink RX7 134 yX7_passOn, Cond.instanceMethod yX7_passOn, Cond.selects RX7 yX7_passOn yX7_passOn, Cond.code yX7_passOn cX7_passOn 3 none, Cond.methodLink RX7 141 yX4_remove, Cond.instanceMethod yX4_remove, Cond.selects RX4 yX4_remove yX4_remove, Cond.code yX4_remove cX4_remove 4 none, Cond.methodLink RX7 326 yX3_putOnPile, Cond.methodLink RX7 329 yX7_branch, Cond.instanceMethod yX7_branch, Cond.selects RX7 yX7_branch yX7_branch, Cond.code yX7_branch cX7_branch 4 none, Cond.methodLink RX7 195 yX7_watchFrozenKiosks, Cond.instanceMethod yX7_watchFrozenKiosks, Cond.selects RX7 yX7_watchFrozenKiosks yX7_watchFrozenKiosks, Cond.code yX7_watchFrozenKiosks cX7_watchFrozenKiosks 3 none, Cond.fieldLink RX7 152 "KioskReel$Kiosk" "out" "Z", Cond.fieldLink RX7 155 "KioskReel$Kiosk" "frozenTicks" "I", Cond.methodLink RX7 349 yX7_makeOut, Cond.instanceMethod yX7_makeOut, Cond.selects RX7 yX7_makeOut yX7_makeOut, Cond.code yX7_makeOut cX7_makeOut 6 none]
def wsX7_tick_r7 : List Cond := [Cond.methodLink RX7 117 yX7_nearestNotOut, Cond.instanceMethod yX7_nearestNotOut, Cond.selects RX7 yX7_nearestNotOut yX7_nearestNotOut, Cond.code yX7_nearestNotOut cX7_nearestNotOut 3 (some .int), Cond.methodLink RX7 352 yX7_isNotOut, Cond.instanceMethod yX7_isNotOut, Cond.selects RX7 yX7_isNotOut yX7_isNotOut, Cond.code yX7_isNotOut cX7_isNotOut 2 (some .boolean), Cond.methodLink RX7 121 yX7_settle, Cond.instanceMethod yX7_settle, Cond.selects RX7 yX7_settle yX7_settle, Cond.code yX7_settle cX7_settle 3 none, Cond.methodLink RX7 146 yX7_leave, Cond.instanceMethod yX7_leave, Cond.selects RX7 yX7_leave yX7_leave, Cond.code yX7_leave cX7_leave 3 none, Cond.methodLink RX7 355 yX4_addFirst, Cond.instanceMethod yX4_addFirst, Cond.selects RX4 yX4_addFirst yX4_addFirst, Cond.code yX4_addFirst cX4_addFirst 3 none]
def wsX7_tick : List Cond := .code yX7_tick cX7_tick 4 (some .int) :: ((wsX7_tick_r1 ++ (wsX7_tick_r2 ++ (wsX7_tick_r3 ++ (wsX7_tick_r4 ++ (wsX7_tick_r5 ++ (wsX7_tick_r6 ++ wsX7_tick_r7)))))) ++ wsX70 ++ wsX10 ++ wsX40 ++ wsX30 ++ wsX50 ++ wsX00 ++ wsX60 ++ (vx_atS RX7 82 "java/lang/IllegalArgumentException" ["java/lang/RuntimeException", "java/lang/Exception"]).filter goodWord ++ (vx_atM "java/lang/ArrayIndexOutOfBoundsException" ["java/lang/IndexOutOfBoundsException", "java/lang/RuntimeException", "java/lang/Exception"]).filter goodWord)
def wsX7_slide : List Cond := .code yX7_slide cX7_slide 3 (some .int) :: ([.classLink RX7 165 "java/util/NoSuchElementException", .initialized "java/util/NoSuchElementException", .fieldLink RX7 17 "KioskReel" "kiosks" "[LKioskReel$Kiosk;", .fieldLink RX7 198 "KioskReel$Kiosk" "lastSlide" "I", .methodLink RX7 104 yX7_checkKiosk, .instanceMethod yX7_checkKiosk, .selects RX7 yX7_checkKiosk yX7_checkKiosk, .initialized RX7, .code yX7_checkKiosk cX7_checkKiosk 2 none, .classLink RX7 62 "java/lang/IndexOutOfBoundsException", .initialized "java/lang/IndexOutOfBoundsException", .fieldLink RX7 99 "KioskReel" "kioskCount" "I"] ++ wsX70 ++ wsX10 ++ (nx_atS RX7 169 "java/util/NoSuchElementException" ["java/lang/RuntimeException", "java/lang/Exception"]).filter goodWord ++ (vx_atS RX7 66 "java/lang/IndexOutOfBoundsException" ["java/lang/RuntimeException", "java/lang/Exception"]).filter goodWord)
def wsX7_checkDevice : List Cond := .code yX7_checkDevice cX7_checkDevice 1 none :: ([.classLink RX7 62 "java/lang/IndexOutOfBoundsException", .initialized "java/lang/IndexOutOfBoundsException"] ++ (vx_atS RX7 66 "java/lang/IndexOutOfBoundsException" ["java/lang/RuntimeException", "java/lang/Exception"]).filter goodWord)
def wsX7_holder : List Cond := .code yX7_holder cX7_holder 3 (some .int) :: ([.classLink RX7 165 "java/util/NoSuchElementException", .initialized "java/util/NoSuchElementException", .fieldLink RX7 29 "KioskReel" "devices" "[LKioskReel$Device;", .fieldLink RX7 131 "KioskReel$Device" "owner" "I", .methodLink RX7 203 yX7_checkDevice, .static yX7_checkDevice, .initialized RX7, .code yX7_checkDevice cX7_checkDevice 1 none, .classLink RX7 62 "java/lang/IndexOutOfBoundsException", .initialized "java/lang/IndexOutOfBoundsException"] ++ wsX70 ++ wsX00 ++ (nx_atS RX7 169 "java/util/NoSuchElementException" ["java/lang/RuntimeException", "java/lang/Exception"]).filter goodWord ++ (vx_atS RX7 66 "java/lang/IndexOutOfBoundsException" ["java/lang/RuntimeException", "java/lang/Exception"]).filter goodWord)
def wsX7_queued : List Cond := .code yX7_queued cX7_queued 4 (some .int) :: ([.classLink RX7 165 "java/util/NoSuchElementException", .initialized "java/util/NoSuchElementException", .fieldLink RX7 29 "KioskReel" "devices" "[LKioskReel$Device;", .fieldLink RX7 137 "KioskReel$Device" "queue" "LKioskReel$PlayerRow;", .fieldLink RX7 164 "KioskReel$PlayerRow" "size" "I", .fieldLink RX7 170 "KioskReel$PlayerRow" "members" "[I", .methodLink RX7 203 yX7_checkDevice, .static yX7_checkDevice, .initialized RX7, .code yX7_checkDevice cX7_checkDevice 1 none, .classLink RX7 62 "java/lang/IndexOutOfBoundsException", .initialized "java/lang/IndexOutOfBoundsException"] ++ wsX70 ++ wsX00 ++ wsX40 ++ (nx_atS RX7 169 "java/util/NoSuchElementException" ["java/lang/RuntimeException", "java/lang/Exception"]).filter goodWord ++ (vx_atM "java/lang/ArrayIndexOutOfBoundsException" ["java/lang/IndexOutOfBoundsException", "java/lang/RuntimeException", "java/lang/Exception"]).filter goodWord ++ (vx_atS RX7 66 "java/lang/IndexOutOfBoundsException" ["java/lang/RuntimeException", "java/lang/Exception"]).filter goodWord)
def wsX7_visitor : List Cond := .code yX7_visitor cX7_visitor 1 (some .int) :: ([.classLink RX7 48 "java/lang/IllegalStateException", .initialized "java/lang/IllegalStateException", .fieldLink RX7 208 "KioskReel" "visitorCount" "I"] ++ wsX70 ++ (vx_atS RX7 52 "java/lang/IllegalStateException" ["java/lang/RuntimeException", "java/lang/Exception"]).filter goodWord)
def wsX7_checkVisitor : List Cond := .code yX7_checkVisitor cX7_checkVisitor 2 none :: ([.classLink RX7 62 "java/lang/IndexOutOfBoundsException", .initialized "java/lang/IndexOutOfBoundsException", .fieldLink RX7 208 "KioskReel" "visitorCount" "I"] ++ wsX70 ++ (vx_atS RX7 66 "java/lang/IndexOutOfBoundsException" ["java/lang/RuntimeException", "java/lang/Exception"]).filter goodWord)
def wsX7_go : List Cond := .code yX7_go cX7_go 4 (some .int) :: ([.fieldLink RX7 35 "KioskReel" "visitors" "[LKioskReel$Visitor;", .fieldLink RX7 216 "KioskReel$Visitor" "place" "I", .methodLink RX7 213 yX7_checkVisitor, .instanceMethod yX7_checkVisitor, .selects RX7 yX7_checkVisitor yX7_checkVisitor, .initialized RX7, .code yX7_checkVisitor cX7_checkVisitor 2 none, .classLink RX7 62 "java/lang/IndexOutOfBoundsException", .initialized "java/lang/IndexOutOfBoundsException", .fieldLink RX7 208 "KioskReel" "visitorCount" "I", .methodLink RX7 104 yX7_checkKiosk, .instanceMethod yX7_checkKiosk, .selects RX7 yX7_checkKiosk yX7_checkKiosk, .code yX7_checkKiosk cX7_checkKiosk 2 none, .fieldLink RX7 99 "KioskReel" "kioskCount" "I"] ++ wsX70 ++ wsX60 ++ (vx_atS RX7 66 "java/lang/IndexOutOfBoundsException" ["java/lang/RuntimeException", "java/lang/Exception"]).filter goodWord)
def wsX7_checkSlide : List Cond := .code yX7_checkSlide cX7_checkSlide 1 none :: ([.classLink RX7 78 "java/lang/IllegalArgumentException", .initialized "java/lang/IllegalArgumentException"] ++ (vx_atS RX7 82 "java/lang/IllegalArgumentException" ["java/lang/RuntimeException", "java/lang/Exception"]).filter goodWord)
def wsX7_ask : List Cond := .code yX7_ask cX7_ask 4 (some .boolean) :: ([.fieldLink RX7 35 "KioskReel" "visitors" "[LKioskReel$Visitor;", .fieldLink RX7 220 "KioskReel$Visitor" "wants" "[Z", .fieldLink RX7 224 "KioskReel$Visitor" "timesAsked" "[I", .fieldLink RX7 227 "KioskReel$Visitor" "timesSeen" "[I", .methodLink RX7 213 yX7_checkVisitor, .instanceMethod yX7_checkVisitor, .selects RX7 yX7_checkVisitor yX7_checkVisitor, .initialized RX7, .code yX7_checkVisitor cX7_checkVisitor 2 none, .classLink RX7 62 "java/lang/IndexOutOfBoundsException", .initialized "java/lang/IndexOutOfBoundsException", .fieldLink RX7 208 "KioskReel" "visitorCount" "I", .methodLink RX7 217 yX7_checkSlide, .static yX7_checkSlide, .code yX7_checkSlide cX7_checkSlide 1 none, .classLink RX7 78 "java/lang/IllegalArgumentException", .initialized "java/lang/IllegalArgumentException"] ++ wsX70 ++ wsX60 ++ (vx_atM "java/lang/ArrayIndexOutOfBoundsException" ["java/lang/IndexOutOfBoundsException", "java/lang/RuntimeException", "java/lang/Exception"]).filter goodWord ++ (vx_atS RX7 66 "java/lang/IndexOutOfBoundsException" ["java/lang/RuntimeException", "java/lang/Exception"]).filter goodWord ++ (vx_atS RX7 82 "java/lang/IllegalArgumentException" ["java/lang/RuntimeException", "java/lang/Exception"]).filter goodWord)
def wsX7_saw : List Cond := .code yX7_saw cX7_saw 3 (some .int) :: ([.fieldLink RX7 35 "KioskReel" "visitors" "[LKioskReel$Visitor;", .fieldLink RX7 227 "KioskReel$Visitor" "timesSeen" "[I", .methodLink RX7 213 yX7_checkVisitor, .instanceMethod yX7_checkVisitor, .selects RX7 yX7_checkVisitor yX7_checkVisitor, .initialized RX7, .code yX7_checkVisitor cX7_checkVisitor 2 none, .classLink RX7 62 "java/lang/IndexOutOfBoundsException", .initialized "java/lang/IndexOutOfBoundsException", .fieldLink RX7 208 "KioskReel" "visitorCount" "I", .methodLink RX7 217 yX7_checkSlide, .static yX7_checkSlide, .code yX7_checkSlide cX7_checkSlide 1 none, .classLink RX7 78 "java/lang/IllegalArgumentException", .initialized "java/lang/IllegalArgumentException"] ++ wsX70 ++ wsX60 ++ (vx_atM "java/lang/ArrayIndexOutOfBoundsException" ["java/lang/IndexOutOfBoundsException", "java/lang/RuntimeException", "java/lang/Exception"]).filter goodWord ++ (vx_atS RX7 66 "java/lang/IndexOutOfBoundsException" ["java/lang/RuntimeException", "java/lang/Exception"]).filter goodWord ++ (vx_atS RX7 82 "java/lang/IllegalArgumentException" ["java/lang/RuntimeException", "java/lang/Exception"]).filter goodWord)
def wsX7_done : List Cond := .code yX7_done cX7_done 1 (some .long) :: ([.fieldLink RX7 230 "KioskReel" "linesDone" "J"] ++ wsX70)
def wsX7_heldShare : List Cond := .code yX7_heldShare cX7_heldShare 3 (some .float) :: ([.fieldLink RX7 29 "KioskReel" "devices" "[LKioskReel$Device;", .fieldLink RX7 131 "KioskReel$Device" "owner" "I", .constantFloat RX7 234 (1086324736)] ++ wsX70 ++ wsX00)
def wsX7_bitsOfShare : List Cond := .code yX7_bitsOfShare cX7_bitsOfShare 4 (some .int) :: ([.constantFloat RX7 358 (1258291200)])
def wsX7_heldBits : List Cond := .code yX7_heldBits cX7_heldBits 1 (some .int) :: ([.methodLink RX7 235 yX7_heldShare, .instanceMethod yX7_heldShare, .selects RX7 yX7_heldShare yX7_heldShare, .initialized RX7, .code yX7_heldShare cX7_heldShare 3 (some .float), .fieldLink RX7 29 "KioskReel" "devices" "[LKioskReel$Device;", .fieldLink RX7 131 "KioskReel$Device" "owner" "I", .constantFloat RX7 234 (1086324736), .methodLink RX7 239 yX7_bitsOfShare, .static yX7_bitsOfShare, .code yX7_bitsOfShare cX7_bitsOfShare 4 (some .int), .constantFloat RX7 358 (1258291200)] ++ wsX70 ++ wsX00)
def wsX7_meanSeen : List Cond := .code yX7_meanSeen cX7_meanSeen 5 (some .double) :: ([.classLink RX7 243 "java/lang/ArithmeticException", .initialized "java/lang/ArithmeticException", .fieldLink RX7 208 "KioskReel" "visitorCount" "I", .fieldLink RX7 35 "KioskReel" "visitors" "[LKioskReel$Visitor;", .fieldLink RX7 227 "KioskReel$Visitor" "timesSeen" "[I"] ++ wsX70 ++ wsX60 ++ (vx_atS RX7 247 "java/lang/ArithmeticException" ["java/lang/RuntimeException", "java/lang/Exception"]).filter goodWord ++ (vx_atM "java/lang/ArrayIndexOutOfBoundsException" ["java/lang/IndexOutOfBoundsException", "java/lang/RuntimeException", "java/lang/Exception"]).filter goodWord)
def wsX7_holdersAreSound : List Cond := .code yX7_holdersAreSound cX7_holdersAreSound 3 (some .boolean) :: ([.fieldLink RX7 29 "KioskReel" "devices" "[LKioskReel$Device;", .fieldLink RX7 131 "KioskReel$Device" "owner" "I", .fieldLink RX7 23 "KioskReel" "players" "[LKioskReel$Player;", .fieldLink RX7 107 "KioskReel$Player" "started" "Z", .methodLink RX7 343 yX7_devicesOf, .instanceMethod yX7_devicesOf, .selects RX7 yX7_devicesOf yX7_devicesOf, .initialized RX7, .code yX7_devicesOf cX7_devicesOf 4 (some .int)] ++ wsX70 ++ wsX00 ++ wsX30)
def wsX7_queuesAreSound : List Cond := .code yX7_queuesAreSound cX7_queuesAreSound 5 (some .boolean) :: ([.fieldLink RX7 23 "KioskReel" "players" "[LKioskReel$Player;", .fieldLink RX7 107 "KioskReel$Player" "started" "Z", .fieldLink RX7 184 "KioskReel$Player" "awaitedDevice" "I", .fieldLink RX7 29 "KioskReel" "devices" "[LKioskReel$Device;", .fieldLink RX7 137 "KioskReel$Device" "queue" "LKioskReel$PlayerRow;", .methodLink RX7 359 yX4_timesIn, .instanceMethod yX4_timesIn, .selects RX4 yX4_timesIn yX4_timesIn, .initialized RX4, .code yX4_timesIn cX4_timesIn 4 (some .int), .fieldLink RX4 15 "KioskReel$PlayerRow" "size" "I", .fieldLink RX4 9 "KioskReel$PlayerRow" "members" "[I"] ++ wsX70 ++ wsX30 ++ wsX00 ++ wsX40 ++ (vx_atM "java/lang/ArrayIndexOutOfBoundsException" ["java/lang/IndexOutOfBoundsException", "java/lang/RuntimeException", "java/lang/Exception"]).filter goodWord)
def wsX7_visitorsAreSound : List Cond := .code yX7_visitorsAreSound cX7_visitorsAreSound 3 (some .boolean) :: ([.fieldLink RX7 208 "KioskReel" "visitorCount" "I", .fieldLink RX7 35 "KioskReel" "visitors" "[LKioskReel$Visitor;", .fieldLink RX7 227 "KioskReel$Visitor" "timesSeen" "[I", .fieldLink RX7 224 "KioskReel$Visitor" "timesAsked" "[I"] ++ wsX70 ++ wsX60 ++ (vx_atM "java/lang/ArrayIndexOutOfBoundsException" ["java/lang/IndexOutOfBoundsException", "java/lang/RuntimeException", "java/lang/Exception"]).filter goodWord)
def wsX7_isSound_r1 : List Cond := [Cond.methodLink RX7 248 yX7_holdersAreSound, Cond.instanceMethod yX7_holdersAreSound, Cond.selects RX7 yX7_holdersAreSound yX7_holdersAreSound, Cond.initialized RX7, Cond.code yX7_holdersAreSound cX7_holdersAreSound 3 (some .boolean), Cond.fieldLink RX7 29 "KioskReel" "devices" "[LKioskReel$Device;", Cond.fieldLink RX7 131 "KioskReel$Device" "owner" "I", Cond.fieldLink RX7 23 "KioskReel" "players" "[LKioskReel$Player;", Cond.fieldLink RX7 107 "KioskReel$Player" "started" "Z", Cond.methodLink RX7 343 yX7_devicesOf, Cond.instanceMethod yX7_devicesOf, Cond.selects RX7 yX7_devicesOf yX7_devicesOf, Cond.code yX7_devicesOf cX7_devicesOf 4 (some .int), Cond.methodLink RX7 252 yX7_queuesAreSound, Cond.instanceMethod yX7_queuesAreSound, Cond.selects RX7 yX7_queuesAreSound yX7_queuesAreSound, Cond.code yX7_queuesAreSound cX7_queuesAreSound 5 (some .boolean), Cond.fieldLink RX7 184 "KioskReel$Player" "awaitedDevice" "I", Cond.fieldLink RX7 137 "KioskReel$Device" "queue" "LKioskReel$PlayerRow;", Cond.methodLink RX7 359 yX4_timesIn, Cond.instanceMethod yX4_timesIn, Cond.selects RX4 yX4_timesIn yX4_timesIn, Cond.initialized RX4, Cond.code yX4_timesIn cX4_timesIn 4 (some .int)]
def wsX7_isSound_r2 : List Cond := [Cond.fieldLink RX4 15 "KioskReel$PlayerRow" "size" "I", Cond.fieldLink RX4 9 "KioskReel$PlayerRow" "members" "[I", Cond.methodLink RX7 255 yX7_visitorsAreSound, Cond.instanceMethod yX7_visitorsAreSound, Cond.selects RX7 yX7_visitorsAreSound yX7_visitorsAreSound, Cond.code yX7_visitorsAreSound cX7_visitorsAreSound 3 (some .boolean), Cond.fieldLink RX7 208 "KioskReel" "visitorCount" "I", Cond.fieldLink RX7 35 "KioskReel" "visitors" "[LKioskReel$Visitor;", Cond.fieldLink RX7 227 "KioskReel$Visitor" "timesSeen" "[I", Cond.fieldLink RX7 224 "KioskReel$Visitor" "timesAsked" "[I"]
def wsX7_isSound : List Cond := .code yX7_isSound cX7_isSound 1 (some .boolean) :: ((wsX7_isSound_r1 ++ wsX7_isSound_r2) ++ wsX70 ++ wsX00 ++ wsX30 ++ wsX40 ++ wsX60 ++ (vx_atM "java/lang/ArrayIndexOutOfBoundsException" ["java/lang/IndexOutOfBoundsException", "java/lang/RuntimeException", "java/lang/Exception"]).filter goodWord)
def wsX8_init_r1 : List Cond := [Cond.methodLink RX8 1 objectInit, Cond.instanceMethod objectInit, Cond.code objectInit ⟨#[0xb1]⟩ 1 none, Cond.arrayClass .int, Cond.fieldLink RX8 7 "KioskReelModel" "many" "[I", Cond.fieldLink RX8 13 "KioskReelModel" "kind" "[I", Cond.fieldLink RX8 16 "KioskReelModel" "number" "[I", Cond.fieldLink RX8 19 "KioskReelModel" "pileMany" "[I", Cond.fieldLink RX8 22 "KioskReelModel" "pileKind" "[I", Cond.fieldLink RX8 25 "KioskReelModel" "pileNumber" "[I", Cond.fieldLink RX8 28 "KioskReelModel" "pileList" "[I", Cond.fieldLink RX8 31 "KioskReelModel" "pileNext" "[I", Cond.arrayClass .boolean, Cond.fieldLink RX8 34 "KioskReelModel" "hasPlayer" "[Z", Cond.fieldLink RX8 38 "KioskReelModel" "isFrozen" "[Z", Cond.fieldLink RX8 41 "KioskReelModel" "isOut" "[Z", Cond.fieldLink RX8 44 "KioskReelModel" "depth" "[I", Cond.fieldLink RX8 47 "KioskReelModel" "at" "[I", Cond.fieldLink RX8 50 "KioskReelModel" "counts" "[I", Cond.fieldLink RX8 53 "KioskReelModel" "ticks" "[I", Cond.fieldLink RX8 56 "KioskReelModel" "wanted" "[I", Cond.fieldLink RX8 59 "KioskReelModel" "frozenFor" "[I", Cond.fieldLink RX8 62 "KioskReelModel" "slide" "[I", Cond.fieldLink RX8 65 "KioskReelModel" "playing" "[I"]
def wsX8_init_r2 : List Cond := [Cond.fieldLink RX8 68 "KioskReelModel" "playingMany" "[I", Cond.fieldLink RX8 71 "KioskReelModel" "holder" "[I", Cond.fieldLink RX8 74 "KioskReelModel" "queue" "[I", Cond.fieldLink RX8 77 "KioskReelModel" "queueMany" "[I", Cond.fieldLink RX8 80 "KioskReelModel" "saw" "[I", Cond.fieldLink RX8 83 "KioskReelModel" "place" "[I", Cond.fieldLink RX8 86 "KioskReelModel" "asked" "[Z"]
def wsX8_init : List Cond := .code yX8_init cX8_init 2 none :: ((wsX8_init_r1 ++ wsX8_init_r2) ++ wsX80 ++ (vx_atM "java/lang/ArrayIndexOutOfBoundsException" ["java/lang/IndexOutOfBoundsException", "java/lang/RuntimeException", "java/lang/Exception"]).filter goodWord)
def wsX8_thrown : List Cond := .code yX8_thrown cX8_thrown 1 (some .int) :: ([.fieldLink RX8 89 "KioskReelModel" "thrown" "I"] ++ wsX80)
def wsX8_isIn : List Cond := .code yX8_isIn cX8_isIn 3 (some .boolean) :: ([])
def wsX8_isThrown : List Cond := .code yX8_isThrown cX8_isThrown 3 (some .boolean) :: ([.fieldLink RX8 89 "KioskReelModel" "thrown" "I"] ++ wsX80)
def wsX8_apart : List Cond := .code yX8_apart cX8_apart 2 (some .int) :: ([])
def wsX8_isList : List Cond := .code yX8_isList cX8_isList 2 (some .boolean) :: ([.fieldLink RX8 93 "KioskReelModel" "lists" "I", .methodLink RX8 96 yX8_isIn, .static yX8_isIn, .initialized RX8, .code yX8_isIn cX8_isIn 3 (some .boolean)] ++ wsX80)
def wsX8_isKiosk : List Cond := .code yX8_isKiosk cX8_isKiosk 2 (some .boolean) :: ([.fieldLink RX8 100 "KioskReelModel" "kiosks" "I", .methodLink RX8 96 yX8_isIn, .static yX8_isIn, .initialized RX8, .code yX8_isIn cX8_isIn 3 (some .boolean)] ++ wsX80)
def wsX8_list : List Cond := .code yX8_list cX8_list 1 (some .int) :: ([.fieldLink RX8 93 "KioskReelModel" "lists" "I", .methodLink RX8 103 yX8_isThrown, .instanceMethod yX8_isThrown, .selects RX8 yX8_isThrown yX8_isThrown, .initialized RX8, .code yX8_isThrown cX8_isThrown 3 (some .boolean), .fieldLink RX8 89 "KioskReelModel" "thrown" "I"] ++ wsX80)
def wsX8_isKind : List Cond := .code yX8_isKind cX8_isKind 1 (some .boolean) :: ([])
def wsX8_isNumber : List Cond := .code yX8_isNumber cX8_isNumber 4 (some .boolean) :: ([.methodLink RX8 96 yX8_isIn, .static yX8_isIn, .initialized RX8, .code yX8_isIn cX8_isIn 3 (some .boolean)])
def wsX8_line : List Cond := .code yX8_line cX8_line 6 (some .int) :: ([.fieldLink RX8 7 "KioskReelModel" "many" "[I", .fieldLink RX8 13 "KioskReelModel" "kind" "[I", .fieldLink RX8 16 "KioskReelModel" "number" "[I", .methodLink RX8 107 yX8_isList, .instanceMethod yX8_isList, .selects RX8 yX8_isList yX8_isList, .initialized RX8, .code yX8_isList cX8_isList 2 (some .boolean), .fieldLink RX8 93 "KioskReelModel" "lists" "I", .methodLink RX8 96 yX8_isIn, .static yX8_isIn, .code yX8_isIn cX8_isIn 3 (some .boolean), .methodLink RX8 103 yX8_isThrown, .instanceMethod yX8_isThrown, .selects RX8 yX8_isThrown yX8_isThrown, .code yX8_isThrown cX8_isThrown 3 (some .boolean), .fieldLink RX8 89 "KioskReelModel" "thrown" "I", .methodLink RX8 111 yX8_isKind, .static yX8_isKind, .code yX8_isKind cX8_isKind 1 (some .boolean), .methodLink RX8 115 yX8_isNumber, .static yX8_isNumber, .code yX8_isNumber cX8_isNumber 4 (some .boolean)] ++ wsX80 ++ (vx_atM "java/lang/ArrayIndexOutOfBoundsException" ["java/lang/IndexOutOfBoundsException", "java/lang/RuntimeException", "java/lang/Exception"]).filter goodWord)
def wsX8_cut : List Cond := .code yX8_cut cX8_cut 5 (some .char) :: ([.fieldLink RX8 7 "KioskReelModel" "many" "[I", .fieldLink RX8 13 "KioskReelModel" "kind" "[I", .fieldLink RX8 16 "KioskReelModel" "number" "[I", .methodLink RX8 107 yX8_isList, .instanceMethod yX8_isList, .selects RX8 yX8_isList yX8_isList, .initialized RX8, .code yX8_isList cX8_isList 2 (some .boolean), .fieldLink RX8 93 "KioskReelModel" "lists" "I", .methodLink RX8 96 yX8_isIn, .static yX8_isIn, .code yX8_isIn cX8_isIn 3 (some .boolean), .methodLink RX8 103 yX8_isThrown, .instanceMethod yX8_isThrown, .selects RX8 yX8_isThrown yX8_isThrown, .code yX8_isThrown cX8_isThrown 3 (some .boolean), .fieldLink RX8 89 "KioskReelModel" "thrown" "I"] ++ wsX80 ++ (vx_atM "java/lang/ArrayIndexOutOfBoundsException" ["java/lang/IndexOutOfBoundsException", "java/lang/RuntimeException", "java/lang/Exception"]).filter goodWord)
def wsX8_lines : List Cond := .code yX8_lines cX8_lines 5 (some .int) :: ([.fieldLink RX8 7 "KioskReelModel" "many" "[I", .fieldLink RX8 13 "KioskReelModel" "kind" "[I", .methodLink RX8 107 yX8_isList, .instanceMethod yX8_isList, .selects RX8 yX8_isList yX8_isList, .initialized RX8, .code yX8_isList cX8_isList 2 (some .boolean), .fieldLink RX8 93 "KioskReelModel" "lists" "I", .methodLink RX8 96 yX8_isIn, .static yX8_isIn, .code yX8_isIn cX8_isIn 3 (some .boolean), .methodLink RX8 103 yX8_isThrown, .instanceMethod yX8_isThrown, .selects RX8 yX8_isThrown yX8_isThrown, .code yX8_isThrown cX8_isThrown 3 (some .boolean), .fieldLink RX8 89 "KioskReelModel" "thrown" "I", .methodLink RX8 111 yX8_isKind, .static yX8_isKind, .code yX8_isKind cX8_isKind 1 (some .boolean)] ++ wsX80 ++ (vx_atM "java/lang/ArrayIndexOutOfBoundsException" ["java/lang/IndexOutOfBoundsException", "java/lang/RuntimeException", "java/lang/Exception"]).filter goodWord)
def wsX8_copies : List Cond := .code yX8_copies cX8_copies 4 none :: ([.fieldLink RX8 28 "KioskReelModel" "pileList" "[I", .fieldLink RX8 31 "KioskReelModel" "pileNext" "[I", .fieldLink RX8 19 "KioskReelModel" "pileMany" "[I", .fieldLink RX8 7 "KioskReelModel" "many" "[I", .fieldLink RX8 22 "KioskReelModel" "pileKind" "[I", .fieldLink RX8 13 "KioskReelModel" "kind" "[I", .fieldLink RX8 25 "KioskReelModel" "pileNumber" "[I", .fieldLink RX8 16 "KioskReelModel" "number" "[I"] ++ wsX80 ++ (vx_atM "java/lang/ArrayIndexOutOfBoundsException" ["java/lang/IndexOutOfBoundsException", "java/lang/RuntimeException", "java/lang/Exception"]).filter goodWord)
def wsX8_kiosk : List Cond := .code yX8_kiosk cX8_kiosk 1 (some .int) :: ([.fieldLink RX8 100 "KioskReelModel" "kiosks" "I", .methodLink RX8 103 yX8_isThrown, .instanceMethod yX8_isThrown, .selects RX8 yX8_isThrown yX8_isThrown, .initialized RX8, .code yX8_isThrown cX8_isThrown 3 (some .boolean), .fieldLink RX8 89 "KioskReelModel" "thrown" "I"] ++ wsX80)
def wsX8_nearest : List Cond := .code yX8_nearest cX8_nearest 4 (some .int) :: ([.fieldLink RX8 100 "KioskReelModel" "kiosks" "I", .fieldLink RX8 41 "KioskReelModel" "isOut" "[Z", .methodLink RX8 119 yX8_apart, .static yX8_apart, .initialized RX8, .code yX8_apart cX8_apart 2 (some .int)] ++ wsX80 ++ (vx_atM "java/lang/ArrayIndexOutOfBoundsException" ["java/lang/IndexOutOfBoundsException", "java/lang/RuntimeException", "java/lang/Exception"]).filter goodWord)
def wsX8_comesTo : List Cond := .code yX8_comesTo cX8_comesTo 4 none :: ([.fieldLink RX8 47 "KioskReelModel" "at" "[I", .fieldLink RX8 68 "KioskReelModel" "playingMany" "[I", .fieldLink RX8 65 "KioskReelModel" "playing" "[I"] ++ wsX80 ++ (vx_atM "java/lang/ArrayIndexOutOfBoundsException" ["java/lang/IndexOutOfBoundsException", "java/lang/RuntimeException", "java/lang/Exception"]).filter goodWord)
def wsX8_leaves : List Cond := .code yX8_leaves cX8_leaves 4 none :: ([.fieldLink RX8 47 "KioskReelModel" "at" "[I", .fieldLink RX8 65 "KioskReelModel" "playing" "[I", .fieldLink RX8 68 "KioskReelModel" "playingMany" "[I"] ++ wsX80 ++ (vx_atM "java/lang/ArrayIndexOutOfBoundsException" ["java/lang/IndexOutOfBoundsException", "java/lang/RuntimeException", "java/lang/Exception"]).filter goodWord)
def wsX8_start_r1 : List Cond := [Cond.fieldLink RX8 34 "KioskReelModel" "hasPlayer" "[Z", Cond.fieldLink RX8 44 "KioskReelModel" "depth" "[I", Cond.fieldLink RX8 50 "KioskReelModel" "counts" "[I", Cond.fieldLink RX8 53 "KioskReelModel" "ticks" "[I", Cond.fieldLink RX8 56 "KioskReelModel" "wanted" "[I", Cond.fieldLink RX8 47 "KioskReelModel" "at" "[I", Cond.methodLink RX8 123 yX8_isKiosk, Cond.instanceMethod yX8_isKiosk, Cond.selects RX8 yX8_isKiosk yX8_isKiosk, Cond.initialized RX8, Cond.code yX8_isKiosk cX8_isKiosk 2 (some .boolean), Cond.fieldLink RX8 100 "KioskReelModel" "kiosks" "I", Cond.methodLink RX8 96 yX8_isIn, Cond.static yX8_isIn, Cond.code yX8_isIn cX8_isIn 3 (some .boolean), Cond.methodLink RX8 107 yX8_isList, Cond.instanceMethod yX8_isList, Cond.selects RX8 yX8_isList yX8_isList, Cond.code yX8_isList cX8_isList 2 (some .boolean), Cond.fieldLink RX8 93 "KioskReelModel" "lists" "I", Cond.methodLink RX8 103 yX8_isThrown, Cond.instanceMethod yX8_isThrown, Cond.selects RX8 yX8_isThrown yX8_isThrown, Cond.code yX8_isThrown cX8_isThrown 3 (some .boolean)]
def wsX8_start_r2 : List Cond := [Cond.fieldLink RX8 89 "KioskReelModel" "thrown" "I", Cond.methodLink RX8 126 yX8_copies, Cond.instanceMethod yX8_copies, Cond.selects RX8 yX8_copies yX8_copies, Cond.code yX8_copies cX8_copies 4 none, Cond.fieldLink RX8 28 "KioskReelModel" "pileList" "[I", Cond.fieldLink RX8 31 "KioskReelModel" "pileNext" "[I", Cond.fieldLink RX8 19 "KioskReelModel" "pileMany" "[I", Cond.fieldLink RX8 7 "KioskReelModel" "many" "[I", Cond.fieldLink RX8 22 "KioskReelModel" "pileKind" "[I", Cond.fieldLink RX8 13 "KioskReelModel" "kind" "[I", Cond.fieldLink RX8 25 "KioskReelModel" "pileNumber" "[I", Cond.fieldLink RX8 16 "KioskReelModel" "number" "[I", Cond.methodLink RX8 130 yX8_nearest, Cond.instanceMethod yX8_nearest, Cond.selects RX8 yX8_nearest yX8_nearest, Cond.code yX8_nearest cX8_nearest 4 (some .int), Cond.fieldLink RX8 41 "KioskReelModel" "isOut" "[Z", Cond.methodLink RX8 119 yX8_apart, Cond.static yX8_apart, Cond.code yX8_apart cX8_apart 2 (some .int), Cond.methodLink RX8 134 yX8_comesTo, Cond.instanceMethod yX8_comesTo, Cond.selects RX8 yX8_comesTo yX8_comesTo]
def wsX8_start_r3 : List Cond := [Cond.code yX8_comesTo cX8_comesTo 4 none, Cond.fieldLink RX8 68 "KioskReelModel" "playingMany" "[I", Cond.fieldLink RX8 65 "KioskReelModel" "playing" "[I"]
def wsX8_start : List Cond := .code yX8_start cX8_start 3 (some .int) :: ((wsX8_start_r1 ++ (wsX8_start_r2 ++ wsX8_start_r3)) ++ wsX80 ++ (vx_atM "java/lang/ArrayIndexOutOfBoundsException" ["java/lang/IndexOutOfBoundsException", "java/lang/RuntimeException", "java/lang/Exception"]).filter goodWord)
def wsX8_isNone : List Cond := .code yX8_isNone cX8_isNone 2 (some .boolean) :: ([.fieldLink RX8 34 "KioskReelModel" "hasPlayer" "[Z", .methodLink RX8 123 yX8_isKiosk, .instanceMethod yX8_isKiosk, .selects RX8 yX8_isKiosk yX8_isKiosk, .initialized RX8, .code yX8_isKiosk cX8_isKiosk 2 (some .boolean), .fieldLink RX8 100 "KioskReelModel" "kiosks" "I", .methodLink RX8 96 yX8_isIn, .static yX8_isIn, .code yX8_isIn cX8_isIn 3 (some .boolean), .methodLink RX8 103 yX8_isThrown, .instanceMethod yX8_isThrown, .selects RX8 yX8_isThrown yX8_isThrown, .code yX8_isThrown cX8_isThrown 3 (some .boolean), .fieldLink RX8 89 "KioskReelModel" "thrown" "I"] ++ wsX80 ++ (vx_atM "java/lang/ArrayIndexOutOfBoundsException" ["java/lang/IndexOutOfBoundsException", "java/lang/RuntimeException", "java/lang/Exception"]).filter goodWord)
def wsX8_held : List Cond := .code yX8_held cX8_held 4 (some .int) :: ([.fieldLink RX8 71 "KioskReelModel" "holder" "[I"] ++ wsX80 ++ (vx_atM "java/lang/ArrayIndexOutOfBoundsException" ["java/lang/IndexOutOfBoundsException", "java/lang/RuntimeException", "java/lang/Exception"]).filter goodWord)
def wsX8_outOf : List Cond := .code yX8_outOf cX8_outOf 6 (some .int) :: ([.fieldLink RX8 74 "KioskReelModel" "queue" "[I", .fieldLink RX8 77 "KioskReelModel" "queueMany" "[I", .fieldLink RX8 56 "KioskReelModel" "wanted" "[I"] ++ wsX80 ++ (vx_atM "java/lang/ArrayIndexOutOfBoundsException" ["java/lang/IndexOutOfBoundsException", "java/lang/RuntimeException", "java/lang/Exception"]).filter goodWord)
def wsX8_frees : List Cond := .code yX8_frees cX8_frees 2 none :: ([.fieldLink RX8 71 "KioskReelModel" "holder" "[I", .fieldLink RX8 77 "KioskReelModel" "queueMany" "[I", .methodLink RX8 137 yX8_outOf, .instanceMethod yX8_outOf, .selects RX8 yX8_outOf yX8_outOf, .initialized RX8, .code yX8_outOf cX8_outOf 6 (some .int), .fieldLink RX8 74 "KioskReelModel" "queue" "[I", .fieldLink RX8 56 "KioskReelModel" "wanted" "[I"] ++ wsX80 ++ (vx_atM "java/lang/ArrayIndexOutOfBoundsException" ["java/lang/IndexOutOfBoundsException", "java/lang/RuntimeException", "java/lang/Exception"]).filter goodWord)
def wsX8_stop_r1 : List Cond := [Cond.fieldLink RX8 56 "KioskReelModel" "wanted" "[I", Cond.fieldLink RX8 77 "KioskReelModel" "queueMany" "[I", Cond.fieldLink RX8 74 "KioskReelModel" "queue" "[I", Cond.fieldLink RX8 71 "KioskReelModel" "holder" "[I", Cond.fieldLink RX8 34 "KioskReelModel" "hasPlayer" "[Z", Cond.fieldLink RX8 47 "KioskReelModel" "at" "[I", Cond.methodLink RX8 140 yX8_isNone, Cond.instanceMethod yX8_isNone, Cond.selects RX8 yX8_isNone yX8_isNone, Cond.initialized RX8, Cond.code yX8_isNone cX8_isNone 2 (some .boolean), Cond.methodLink RX8 123 yX8_isKiosk, Cond.instanceMethod yX8_isKiosk, Cond.selects RX8 yX8_isKiosk yX8_isKiosk, Cond.code yX8_isKiosk cX8_isKiosk 2 (some .boolean), Cond.fieldLink RX8 100 "KioskReelModel" "kiosks" "I", Cond.methodLink RX8 96 yX8_isIn, Cond.static yX8_isIn, Cond.code yX8_isIn cX8_isIn 3 (some .boolean), Cond.methodLink RX8 103 yX8_isThrown, Cond.instanceMethod yX8_isThrown, Cond.selects RX8 yX8_isThrown yX8_isThrown, Cond.code yX8_isThrown cX8_isThrown 3 (some .boolean), Cond.fieldLink RX8 89 "KioskReelModel" "thrown" "I"]
def wsX8_stop_r2 : List Cond := [Cond.methodLink RX8 143 yX8_held, Cond.instanceMethod yX8_held, Cond.selects RX8 yX8_held yX8_held, Cond.code yX8_held cX8_held 4 (some .int), Cond.methodLink RX8 137 yX8_outOf, Cond.instanceMethod yX8_outOf, Cond.selects RX8 yX8_outOf yX8_outOf, Cond.code yX8_outOf cX8_outOf 6 (some .int), Cond.methodLink RX8 146 yX8_frees, Cond.instanceMethod yX8_frees, Cond.selects RX8 yX8_frees yX8_frees, Cond.code yX8_frees cX8_frees 2 none, Cond.methodLink RX8 150 yX8_leaves, Cond.instanceMethod yX8_leaves, Cond.selects RX8 yX8_leaves yX8_leaves, Cond.code yX8_leaves cX8_leaves 4 none, Cond.fieldLink RX8 65 "KioskReelModel" "playing" "[I", Cond.fieldLink RX8 68 "KioskReelModel" "playingMany" "[I"]
def wsX8_stop : List Cond := .code yX8_stop cX8_stop 6 (some .int) :: ((wsX8_stop_r1 ++ wsX8_stop_r2) ++ wsX80 ++ (vx_atM "java/lang/ArrayIndexOutOfBoundsException" ["java/lang/IndexOutOfBoundsException", "java/lang/RuntimeException", "java/lang/Exception"]).filter goodWord)
def wsX8_freeze : List Cond := .code yX8_freeze cX8_freeze 3 (some .boolean) :: ([.fieldLink RX8 38 "KioskReelModel" "isFrozen" "[Z", .methodLink RX8 123 yX8_isKiosk, .instanceMethod yX8_isKiosk, .selects RX8 yX8_isKiosk yX8_isKiosk, .initialized RX8, .code yX8_isKiosk cX8_isKiosk 2 (some .boolean), .fieldLink RX8 100 "KioskReelModel" "kiosks" "I", .methodLink RX8 96 yX8_isIn, .static yX8_isIn, .code yX8_isIn cX8_isIn 3 (some .boolean), .methodLink RX8 103 yX8_isThrown, .instanceMethod yX8_isThrown, .selects RX8 yX8_isThrown yX8_isThrown, .code yX8_isThrown cX8_isThrown 3 (some .boolean), .fieldLink RX8 89 "KioskReelModel" "thrown" "I"] ++ wsX80 ++ (vx_atM "java/lang/ArrayIndexOutOfBoundsException" ["java/lang/IndexOutOfBoundsException", "java/lang/RuntimeException", "java/lang/Exception"]).filter goodWord)
def wsX8_thaw_r1 : List Cond := [Cond.fieldLink RX8 41 "KioskReelModel" "isOut" "[Z", Cond.fieldLink RX8 38 "KioskReelModel" "isFrozen" "[Z", Cond.fieldLink RX8 59 "KioskReelModel" "frozenFor" "[I", Cond.fieldLink RX8 34 "KioskReelModel" "hasPlayer" "[Z", Cond.fieldLink RX8 100 "KioskReelModel" "kiosks" "I", Cond.fieldLink RX8 47 "KioskReelModel" "at" "[I", Cond.methodLink RX8 123 yX8_isKiosk, Cond.instanceMethod yX8_isKiosk, Cond.selects RX8 yX8_isKiosk yX8_isKiosk, Cond.initialized RX8, Cond.code yX8_isKiosk cX8_isKiosk 2 (some .boolean), Cond.methodLink RX8 96 yX8_isIn, Cond.static yX8_isIn, Cond.code yX8_isIn cX8_isIn 3 (some .boolean), Cond.methodLink RX8 103 yX8_isThrown, Cond.instanceMethod yX8_isThrown, Cond.selects RX8 yX8_isThrown yX8_isThrown, Cond.code yX8_isThrown cX8_isThrown 3 (some .boolean), Cond.fieldLink RX8 89 "KioskReelModel" "thrown" "I", Cond.methodLink RX8 150 yX8_leaves, Cond.instanceMethod yX8_leaves, Cond.selects RX8 yX8_leaves yX8_leaves, Cond.code yX8_leaves cX8_leaves 4 none, Cond.fieldLink RX8 65 "KioskReelModel" "playing" "[I"]
def wsX8_thaw_r2 : List Cond := [Cond.fieldLink RX8 68 "KioskReelModel" "playingMany" "[I", Cond.methodLink RX8 134 yX8_comesTo, Cond.instanceMethod yX8_comesTo, Cond.selects RX8 yX8_comesTo yX8_comesTo, Cond.code yX8_comesTo cX8_comesTo 4 none]
def wsX8_thaw : List Cond := .code yX8_thaw cX8_thaw 5 (some .int) :: ((wsX8_thaw_r1 ++ wsX8_thaw_r2) ++ wsX80 ++ (vx_atM "java/lang/ArrayIndexOutOfBoundsException" ["java/lang/IndexOutOfBoundsException", "java/lang/RuntimeException", "java/lang/Exception"]).filter goodWord)
def wsX8_state : List Cond := .code yX8_state cX8_state 2 (some .char) :: ([.fieldLink RX8 41 "KioskReelModel" "isOut" "[Z", .fieldLink RX8 38 "KioskReelModel" "isFrozen" "[Z", .methodLink RX8 123 yX8_isKiosk, .instanceMethod yX8_isKiosk, .selects RX8 yX8_isKiosk yX8_isKiosk, .initialized RX8, .code yX8_isKiosk cX8_isKiosk 2 (some .boolean), .fieldLink RX8 100 "KioskReelModel" "kiosks" "I", .methodLink RX8 96 yX8_isIn, .static yX8_isIn, .code yX8_isIn cX8_isIn 3 (some .boolean), .methodLink RX8 103 yX8_isThrown, .instanceMethod yX8_isThrown, .selects RX8 yX8_isThrown yX8_isThrown, .code yX8_isThrown cX8_isThrown 3 (some .boolean), .fieldLink RX8 89 "KioskReelModel" "thrown" "I"] ++ wsX80 ++ (vx_atM "java/lang/ArrayIndexOutOfBoundsException" ["java/lang/IndexOutOfBoundsException", "java/lang/RuntimeException", "java/lang/Exception"]).filter goodWord)
def wsX8_plays : List Cond := .code yX8_plays cX8_plays 2 (some .int) :: ([.fieldLink RX8 47 "KioskReelModel" "at" "[I", .methodLink RX8 140 yX8_isNone, .instanceMethod yX8_isNone, .selects RX8 yX8_isNone yX8_isNone, .initialized RX8, .code yX8_isNone cX8_isNone 2 (some .boolean), .fieldLink RX8 34 "KioskReelModel" "hasPlayer" "[Z", .methodLink RX8 123 yX8_isKiosk, .instanceMethod yX8_isKiosk, .selects RX8 yX8_isKiosk yX8_isKiosk, .code yX8_isKiosk cX8_isKiosk 2 (some .boolean), .fieldLink RX8 100 "KioskReelModel" "kiosks" "I", .methodLink RX8 96 yX8_isIn, .static yX8_isIn, .code yX8_isIn cX8_isIn 3 (some .boolean), .methodLink RX8 103 yX8_isThrown, .instanceMethod yX8_isThrown, .selects RX8 yX8_isThrown yX8_isThrown, .code yX8_isThrown cX8_isThrown 3 (some .boolean), .fieldLink RX8 89 "KioskReelModel" "thrown" "I"] ++ wsX80 ++ (vx_atM "java/lang/ArrayIndexOutOfBoundsException" ["java/lang/IndexOutOfBoundsException", "java/lang/RuntimeException", "java/lang/Exception"]).filter goodWord)
def wsX8_playerAt : List Cond := .code yX8_playerAt cX8_playerAt 3 (some .int) :: ([.fieldLink RX8 68 "KioskReelModel" "playingMany" "[I", .fieldLink RX8 65 "KioskReelModel" "playing" "[I", .methodLink RX8 123 yX8_isKiosk, .instanceMethod yX8_isKiosk, .selects RX8 yX8_isKiosk yX8_isKiosk, .initialized RX8, .code yX8_isKiosk cX8_isKiosk 2 (some .boolean), .fieldLink RX8 100 "KioskReelModel" "kiosks" "I", .methodLink RX8 96 yX8_isIn, .static yX8_isIn, .code yX8_isIn cX8_isIn 3 (some .boolean), .methodLink RX8 103 yX8_isThrown, .instanceMethod yX8_isThrown, .selects RX8 yX8_isThrown yX8_isThrown, .code yX8_isThrown cX8_isThrown 3 (some .boolean), .fieldLink RX8 89 "KioskReelModel" "thrown" "I"] ++ wsX80 ++ (vx_atM "java/lang/ArrayIndexOutOfBoundsException" ["java/lang/IndexOutOfBoundsException", "java/lang/RuntimeException", "java/lang/Exception"]).filter goodWord)
def wsX8_top : List Cond := .code yX8_top cX8_top 2 (some .int) :: ([.fieldLink RX8 44 "KioskReelModel" "depth" "[I"] ++ wsX80 ++ (vx_atM "java/lang/ArrayIndexOutOfBoundsException" ["java/lang/IndexOutOfBoundsException", "java/lang/RuntimeException", "java/lang/Exception"]).filter goodWord)
def wsX8_next_r1 : List Cond := [Cond.fieldLink RX8 44 "KioskReelModel" "depth" "[I", Cond.fieldLink RX8 31 "KioskReelModel" "pileNext" "[I", Cond.methodLink RX8 140 yX8_isNone, Cond.instanceMethod yX8_isNone, Cond.selects RX8 yX8_isNone yX8_isNone, Cond.initialized RX8, Cond.code yX8_isNone cX8_isNone 2 (some .boolean), Cond.fieldLink RX8 34 "KioskReelModel" "hasPlayer" "[Z", Cond.methodLink RX8 123 yX8_isKiosk, Cond.instanceMethod yX8_isKiosk, Cond.selects RX8 yX8_isKiosk yX8_isKiosk, Cond.code yX8_isKiosk cX8_isKiosk 2 (some .boolean), Cond.fieldLink RX8 100 "KioskReelModel" "kiosks" "I", Cond.methodLink RX8 96 yX8_isIn, Cond.static yX8_isIn, Cond.code yX8_isIn cX8_isIn 3 (some .boolean), Cond.methodLink RX8 103 yX8_isThrown, Cond.instanceMethod yX8_isThrown, Cond.selects RX8 yX8_isThrown yX8_isThrown, Cond.code yX8_isThrown cX8_isThrown 3 (some .boolean), Cond.fieldLink RX8 89 "KioskReelModel" "thrown" "I", Cond.methodLink RX8 153 yX8_top, Cond.instanceMethod yX8_top, Cond.selects RX8 yX8_top yX8_top]
def wsX8_next_r2 : List Cond := [Cond.code yX8_top cX8_top 2 (some .int)]
def wsX8_next : List Cond := .code yX8_next cX8_next 2 (some .int) :: ((wsX8_next_r1 ++ wsX8_next_r2) ++ wsX80 ++ (vx_atM "java/lang/ArrayIndexOutOfBoundsException" ["java/lang/IndexOutOfBoundsException", "java/lang/RuntimeException", "java/lang/Exception"]).filter goodWord)
def wsX8_count : List Cond := .code yX8_count cX8_count 2 (some .int) :: ([.fieldLink RX8 50 "KioskReelModel" "counts" "[I", .methodLink RX8 140 yX8_isNone, .instanceMethod yX8_isNone, .selects RX8 yX8_isNone yX8_isNone, .initialized RX8, .code yX8_isNone cX8_isNone 2 (some .boolean), .fieldLink RX8 34 "KioskReelModel" "hasPlayer" "[Z", .methodLink RX8 123 yX8_isKiosk, .instanceMethod yX8_isKiosk, .selects RX8 yX8_isKiosk yX8_isKiosk, .code yX8_isKiosk cX8_isKiosk 2 (some .boolean), .fieldLink RX8 100 "KioskReelModel" "kiosks" "I", .methodLink RX8 96 yX8_isIn, .static yX8_isIn, .code yX8_isIn cX8_isIn 3 (some .boolean), .methodLink RX8 103 yX8_isThrown, .instanceMethod yX8_isThrown, .selects RX8 yX8_isThrown yX8_isThrown, .code yX8_isThrown cX8_isThrown 3 (some .boolean), .fieldLink RX8 89 "KioskReelModel" "thrown" "I"] ++ wsX80 ++ (vx_atM "java/lang/ArrayIndexOutOfBoundsException" ["java/lang/IndexOutOfBoundsException", "java/lang/RuntimeException", "java/lang/Exception"]).filter goodWord)
def wsX8_waits : List Cond := .code yX8_waits cX8_waits 2 (some .int) :: ([.fieldLink RX8 56 "KioskReelModel" "wanted" "[I", .fieldLink RX8 53 "KioskReelModel" "ticks" "[I", .methodLink RX8 140 yX8_isNone, .instanceMethod yX8_isNone, .selects RX8 yX8_isNone yX8_isNone, .initialized RX8, .code yX8_isNone cX8_isNone 2 (some .boolean), .fieldLink RX8 34 "KioskReelModel" "hasPlayer" "[Z", .methodLink RX8 123 yX8_isKiosk, .instanceMethod yX8_isKiosk, .selects RX8 yX8_isKiosk yX8_isKiosk, .code yX8_isKiosk cX8_isKiosk 2 (some .boolean), .fieldLink RX8 100 "KioskReelModel" "kiosks" "I", .methodLink RX8 96 yX8_isIn, .static yX8_isIn, .code yX8_isIn cX8_isIn 3 (some .boolean), .methodLink RX8 103 yX8_isThrown, .instanceMethod yX8_isThrown, .selects RX8 yX8_isThrown yX8_isThrown, .code yX8_isThrown cX8_isThrown 3 (some .boolean), .fieldLink RX8 89 "KioskReelModel" "thrown" "I"] ++ wsX80 ++ (vx_atM "java/lang/ArrayIndexOutOfBoundsException" ["java/lang/IndexOutOfBoundsException", "java/lang/RuntimeException", "java/lang/Exception"]).filter goodWord)
def wsX8_sees : List Cond := .code yX8_sees cX8_sees 5 (some .boolean) :: ([.fieldLink RX8 83 "KioskReelModel" "place" "[I", .fieldLink RX8 80 "KioskReelModel" "saw" "[I", .fieldLink RX8 86 "KioskReelModel" "asked" "[Z"] ++ wsX80 ++ (vx_atM "java/lang/ArrayIndexOutOfBoundsException" ["java/lang/IndexOutOfBoundsException", "java/lang/RuntimeException", "java/lang/Exception"]).filter goodWord)
def wsX8_present : List Cond := .code yX8_present cX8_present 4 (some .int) :: ([.fieldLink RX8 173 "KioskReelModel" "visitors" "I", .fieldLink RX8 83 "KioskReelModel" "place" "[I"] ++ wsX80 ++ (vx_atM "java/lang/ArrayIndexOutOfBoundsException" ["java/lang/IndexOutOfBoundsException", "java/lang/RuntimeException", "java/lang/Exception"]).filter goodWord)
def wsX8_shows : List Cond := .code yX8_shows cX8_shows 5 (some .boolean) :: ([.fieldLink RX8 173 "KioskReelModel" "visitors" "I", .fieldLink RX8 62 "KioskReelModel" "slide" "[I", .fieldLink RX8 179 "KioskReelModel" "shown" "I", .fieldLink RX8 80 "KioskReelModel" "saw" "[I", .fieldLink RX8 86 "KioskReelModel" "asked" "[Z", .methodLink RX8 176 yX8_sees, .instanceMethod yX8_sees, .selects RX8 yX8_sees yX8_sees, .initialized RX8, .code yX8_sees cX8_sees 5 (some .boolean), .fieldLink RX8 83 "KioskReelModel" "place" "[I", .methodLink RX8 170 yX8_present, .instanceMethod yX8_present, .selects RX8 yX8_present yX8_present, .code yX8_present cX8_present 4 (some .int)] ++ wsX80 ++ (vx_atM "java/lang/ArrayIndexOutOfBoundsException" ["java/lang/IndexOutOfBoundsException", "java/lang/RuntimeException", "java/lang/Exception"]).filter goodWord)
def wsX8_takes : List Cond := .code yX8_takes cX8_takes 3 (some .boolean) :: ([.fieldLink RX8 71 "KioskReelModel" "holder" "[I", .fieldLink RX8 74 "KioskReelModel" "queue" "[I", .fieldLink RX8 77 "KioskReelModel" "queueMany" "[I", .fieldLink RX8 56 "KioskReelModel" "wanted" "[I", .methodLink RX8 143 yX8_held, .instanceMethod yX8_held, .selects RX8 yX8_held yX8_held, .initialized RX8, .code yX8_held cX8_held 4 (some .int)] ++ wsX80 ++ (vx_atM "java/lang/ArrayIndexOutOfBoundsException" ["java/lang/IndexOutOfBoundsException", "java/lang/RuntimeException", "java/lang/Exception"]).filter goodWord)
def wsX8_does_r1 : List Cond := [Cond.fieldLink RX8 31 "KioskReelModel" "pileNext" "[I", Cond.fieldLink RX8 25 "KioskReelModel" "pileNumber" "[I", Cond.fieldLink RX8 22 "KioskReelModel" "pileKind" "[I", Cond.fieldLink RX8 47 "KioskReelModel" "at" "[I", Cond.fieldLink RX8 53 "KioskReelModel" "ticks" "[I", Cond.fieldLink RX8 71 "KioskReelModel" "holder" "[I", Cond.fieldLink RX8 50 "KioskReelModel" "counts" "[I", Cond.fieldLink RX8 44 "KioskReelModel" "depth" "[I", Cond.methodLink RX8 164 yX8_shows, Cond.instanceMethod yX8_shows, Cond.selects RX8 yX8_shows yX8_shows, Cond.initialized RX8, Cond.code yX8_shows cX8_shows 5 (some .boolean), Cond.fieldLink RX8 173 "KioskReelModel" "visitors" "I", Cond.fieldLink RX8 62 "KioskReelModel" "slide" "[I", Cond.fieldLink RX8 179 "KioskReelModel" "shown" "I", Cond.fieldLink RX8 80 "KioskReelModel" "saw" "[I", Cond.fieldLink RX8 86 "KioskReelModel" "asked" "[Z", Cond.methodLink RX8 176 yX8_sees, Cond.instanceMethod yX8_sees, Cond.selects RX8 yX8_sees yX8_sees, Cond.code yX8_sees cX8_sees 5 (some .boolean), Cond.fieldLink RX8 83 "KioskReelModel" "place" "[I", Cond.methodLink RX8 170 yX8_present]
def wsX8_does_r2 : List Cond := [Cond.instanceMethod yX8_present, Cond.selects RX8 yX8_present yX8_present, Cond.code yX8_present cX8_present 4 (some .int), Cond.methodLink RX8 167 yX8_takes, Cond.instanceMethod yX8_takes, Cond.selects RX8 yX8_takes yX8_takes, Cond.code yX8_takes cX8_takes 3 (some .boolean), Cond.fieldLink RX8 74 "KioskReelModel" "queue" "[I", Cond.fieldLink RX8 77 "KioskReelModel" "queueMany" "[I", Cond.fieldLink RX8 56 "KioskReelModel" "wanted" "[I", Cond.methodLink RX8 143 yX8_held, Cond.instanceMethod yX8_held, Cond.selects RX8 yX8_held yX8_held, Cond.code yX8_held cX8_held 4 (some .int), Cond.methodLink RX8 146 yX8_frees, Cond.instanceMethod yX8_frees, Cond.selects RX8 yX8_frees yX8_frees, Cond.code yX8_frees cX8_frees 2 none, Cond.methodLink RX8 137 yX8_outOf, Cond.instanceMethod yX8_outOf, Cond.selects RX8 yX8_outOf yX8_outOf, Cond.code yX8_outOf cX8_outOf 6 (some .int), Cond.methodLink RX8 107 yX8_isList, Cond.instanceMethod yX8_isList]
def wsX8_does_r3 : List Cond := [Cond.selects RX8 yX8_isList yX8_isList, Cond.code yX8_isList cX8_isList 2 (some .boolean), Cond.fieldLink RX8 93 "KioskReelModel" "lists" "I", Cond.methodLink RX8 96 yX8_isIn, Cond.static yX8_isIn, Cond.code yX8_isIn cX8_isIn 3 (some .boolean), Cond.methodLink RX8 126 yX8_copies, Cond.instanceMethod yX8_copies, Cond.selects RX8 yX8_copies yX8_copies, Cond.code yX8_copies cX8_copies 4 none, Cond.fieldLink RX8 28 "KioskReelModel" "pileList" "[I", Cond.fieldLink RX8 19 "KioskReelModel" "pileMany" "[I", Cond.fieldLink RX8 7 "KioskReelModel" "many" "[I", Cond.fieldLink RX8 13 "KioskReelModel" "kind" "[I", Cond.fieldLink RX8 16 "KioskReelModel" "number" "[I"]
def wsX8_does : List Cond := .code yX8_does cX8_does 5 (some .boolean) :: ((wsX8_does_r1 ++ (wsX8_does_r2 ++ wsX8_does_r3)) ++ wsX80 ++ (vx_atM "java/lang/ArrayIndexOutOfBoundsException" ["java/lang/IndexOutOfBoundsException", "java/lang/RuntimeException", "java/lang/Exception"]).filter goodWord)
def wsX8_turn_r1 : List Cond := [Cond.fieldLink RX8 53 "KioskReelModel" "ticks" "[I", Cond.fieldLink RX8 56 "KioskReelModel" "wanted" "[I", Cond.fieldLink RX8 31 "KioskReelModel" "pileNext" "[I", Cond.fieldLink RX8 19 "KioskReelModel" "pileMany" "[I", Cond.fieldLink RX8 44 "KioskReelModel" "depth" "[I", Cond.fieldLink RX8 156 "KioskReelModel" "done" "J", Cond.fieldLink RX8 28 "KioskReelModel" "pileList" "[I", Cond.methodLink RX8 153 yX8_top, Cond.instanceMethod yX8_top, Cond.selects RX8 yX8_top yX8_top, Cond.initialized RX8, Cond.code yX8_top cX8_top 2 (some .int), Cond.methodLink RX8 126 yX8_copies, Cond.instanceMethod yX8_copies, Cond.selects RX8 yX8_copies yX8_copies, Cond.code yX8_copies cX8_copies 4 none, Cond.fieldLink RX8 7 "KioskReelModel" "many" "[I", Cond.fieldLink RX8 22 "KioskReelModel" "pileKind" "[I", Cond.fieldLink RX8 13 "KioskReelModel" "kind" "[I", Cond.fieldLink RX8 25 "KioskReelModel" "pileNumber" "[I", Cond.fieldLink RX8 16 "KioskReelModel" "number" "[I", Cond.methodLink RX8 160 yX8_does, Cond.instanceMethod yX8_does, Cond.selects RX8 yX8_does yX8_does]
def wsX8_turn_r2 : List Cond := [Cond.code yX8_does cX8_does 5 (some .boolean), Cond.fieldLink RX8 47 "KioskReelModel" "at" "[I", Cond.fieldLink RX8 71 "KioskReelModel" "holder" "[I", Cond.fieldLink RX8 50 "KioskReelModel" "counts" "[I", Cond.methodLink RX8 164 yX8_shows, Cond.instanceMethod yX8_shows, Cond.selects RX8 yX8_shows yX8_shows, Cond.code yX8_shows cX8_shows 5 (some .boolean), Cond.fieldLink RX8 173 "KioskReelModel" "visitors" "I", Cond.fieldLink RX8 62 "KioskReelModel" "slide" "[I", Cond.fieldLink RX8 179 "KioskReelModel" "shown" "I", Cond.fieldLink RX8 80 "KioskReelModel" "saw" "[I", Cond.fieldLink RX8 86 "KioskReelModel" "asked" "[Z", Cond.methodLink RX8 176 yX8_sees, Cond.instanceMethod yX8_sees, Cond.selects RX8 yX8_sees yX8_sees, Cond.code yX8_sees cX8_sees 5 (some .boolean), Cond.fieldLink RX8 83 "KioskReelModel" "place" "[I", Cond.methodLink RX8 170 yX8_present, Cond.instanceMethod yX8_present, Cond.selects RX8 yX8_present yX8_present, Cond.code yX8_present cX8_present 4 (some .int), Cond.methodLink RX8 167 yX8_takes, Cond.instanceMethod yX8_takes]
def wsX8_turn_r3 : List Cond := [Cond.selects RX8 yX8_takes yX8_takes, Cond.code yX8_takes cX8_takes 3 (some .boolean), Cond.fieldLink RX8 74 "KioskReelModel" "queue" "[I", Cond.fieldLink RX8 77 "KioskReelModel" "queueMany" "[I", Cond.methodLink RX8 143 yX8_held, Cond.instanceMethod yX8_held, Cond.selects RX8 yX8_held yX8_held, Cond.code yX8_held cX8_held 4 (some .int), Cond.methodLink RX8 146 yX8_frees, Cond.instanceMethod yX8_frees, Cond.selects RX8 yX8_frees yX8_frees, Cond.code yX8_frees cX8_frees 2 none, Cond.methodLink RX8 137 yX8_outOf, Cond.instanceMethod yX8_outOf, Cond.selects RX8 yX8_outOf yX8_outOf, Cond.code yX8_outOf cX8_outOf 6 (some .int), Cond.methodLink RX8 107 yX8_isList, Cond.instanceMethod yX8_isList, Cond.selects RX8 yX8_isList yX8_isList, Cond.code yX8_isList cX8_isList 2 (some .boolean), Cond.fieldLink RX8 93 "KioskReelModel" "lists" "I", Cond.methodLink RX8 96 yX8_isIn, Cond.static yX8_isIn, Cond.code yX8_isIn cX8_isIn 3 (some .boolean)]
def wsX8_turn : List Cond := .code yX8_turn cX8_turn 6 none :: ((wsX8_turn_r1 ++ (wsX8_turn_r2 ++ wsX8_turn_r3)) ++ wsX80 ++ (vx_atM "java/lang/ArrayIndexOutOfBoundsException" ["java/lang/IndexOutOfBoundsException", "java/lang/RuntimeException", "java/lang/Exception"]).filter goodWord)
def wsX8_watches : List Cond := .code yX8_watches cX8_watches 3 none :: ([.fieldLink RX8 100 "KioskReelModel" "kiosks" "I", .fieldLink RX8 59 "KioskReelModel" "frozenFor" "[I", .fieldLink RX8 38 "KioskReelModel" "isFrozen" "[Z", .fieldLink RX8 41 "KioskReelModel" "isOut" "[Z", .fieldLink RX8 68 "KioskReelModel" "playingMany" "[I", .fieldLink RX8 65 "KioskReelModel" "playing" "[I", .methodLink RX8 150 yX8_leaves, .instanceMethod yX8_leaves, .selects RX8 yX8_leaves yX8_leaves, .initialized RX8, .code yX8_leaves cX8_leaves 4 none, .fieldLink RX8 47 "KioskReelModel" "at" "[I", .methodLink RX8 130 yX8_nearest, .instanceMethod yX8_nearest, .selects RX8 yX8_nearest yX8_nearest, .code yX8_nearest cX8_nearest 4 (some .int), .methodLink RX8 119 yX8_apart, .static yX8_apart, .code yX8_apart cX8_apart 2 (some .int), .methodLink RX8 134 yX8_comesTo, .instanceMethod yX8_comesTo, .selects RX8 yX8_comesTo yX8_comesTo, .code yX8_comesTo cX8_comesTo 4 none] ++ wsX80 ++ (vx_atM "java/lang/ArrayIndexOutOfBoundsException" ["java/lang/IndexOutOfBoundsException", "java/lang/RuntimeException", "java/lang/Exception"]).filter goodWord)
def wsX8_tick_r1 : List Cond := [Cond.fieldLink RX8 179 "KioskReelModel" "shown" "I", Cond.fieldLink RX8 100 "KioskReelModel" "kiosks" "I", Cond.fieldLink RX8 68 "KioskReelModel" "playingMany" "[I", Cond.fieldLink RX8 38 "KioskReelModel" "isFrozen" "[Z", Cond.fieldLink RX8 65 "KioskReelModel" "playing" "[I", Cond.methodLink RX8 96 yX8_isIn, Cond.static yX8_isIn, Cond.initialized RX8, Cond.code yX8_isIn cX8_isIn 3 (some .boolean), Cond.methodLink RX8 103 yX8_isThrown, Cond.instanceMethod yX8_isThrown, Cond.selects RX8 yX8_isThrown yX8_isThrown, Cond.code yX8_isThrown cX8_isThrown 3 (some .boolean), Cond.fieldLink RX8 89 "KioskReelModel" "thrown" "I", Cond.methodLink RX8 182 yX8_turn, Cond.instanceMethod yX8_turn, Cond.selects RX8 yX8_turn yX8_turn, Cond.code yX8_turn cX8_turn 6 none, Cond.fieldLink RX8 53 "KioskReelModel" "ticks" "[I", Cond.fieldLink RX8 56 "KioskReelModel" "wanted" "[I", Cond.fieldLink RX8 31 "KioskReelModel" "pileNext" "[I", Cond.fieldLink RX8 19 "KioskReelModel" "pileMany" "[I", Cond.fieldLink RX8 44 "KioskReelModel" "depth" "[I", Cond.fieldLink RX8 156 "KioskReelModel" "done" "J"]
def wsX8_tick_r2 : List Cond := [Cond.fieldLink RX8 28 "KioskReelModel" "pileList" "[I", Cond.methodLink RX8 153 yX8_top, Cond.instanceMethod yX8_top, Cond.selects RX8 yX8_top yX8_top, Cond.code yX8_top cX8_top 2 (some .int), Cond.methodLink RX8 126 yX8_copies, Cond.instanceMethod yX8_copies, Cond.selects RX8 yX8_copies yX8_copies, Cond.code yX8_copies cX8_copies 4 none, Cond.fieldLink RX8 7 "KioskReelModel" "many" "[I", Cond.fieldLink RX8 22 "KioskReelModel" "pileKind" "[I", Cond.fieldLink RX8 13 "KioskReelModel" "kind" "[I", Cond.fieldLink RX8 25 "KioskReelModel" "pileNumber" "[I", Cond.fieldLink RX8 16 "KioskReelModel" "number" "[I", Cond.methodLink RX8 160 yX8_does, Cond.instanceMethod yX8_does, Cond.selects RX8 yX8_does yX8_does, Cond.code yX8_does cX8_does 5 (some .boolean), Cond.fieldLink RX8 47 "KioskReelModel" "at" "[I", Cond.fieldLink RX8 71 "KioskReelModel" "holder" "[I", Cond.fieldLink RX8 50 "KioskReelModel" "counts" "[I", Cond.methodLink RX8 164 yX8_shows, Cond.instanceMethod yX8_shows, Cond.selects RX8 yX8_shows yX8_shows]
def wsX8_tick_r3 : List Cond := [Cond.code yX8_shows cX8_shows 5 (some .boolean), Cond.fieldLink RX8 173 "KioskReelModel" "visitors" "I", Cond.fieldLink RX8 62 "KioskReelModel" "slide" "[I", Cond.fieldLink RX8 80 "KioskReelModel" "saw" "[I", Cond.fieldLink RX8 86 "KioskReelModel" "asked" "[Z", Cond.methodLink RX8 176 yX8_sees, Cond.instanceMethod yX8_sees, Cond.selects RX8 yX8_sees yX8_sees, Cond.code yX8_sees cX8_sees 5 (some .boolean), Cond.fieldLink RX8 83 "KioskReelModel" "place" "[I", Cond.methodLink RX8 170 yX8_present, Cond.instanceMethod yX8_present, Cond.selects RX8 yX8_present yX8_present, Cond.code yX8_present cX8_present 4 (some .int), Cond.methodLink RX8 167 yX8_takes, Cond.instanceMethod yX8_takes, Cond.selects RX8 yX8_takes yX8_takes, Cond.code yX8_takes cX8_takes 3 (some .boolean), Cond.fieldLink RX8 74 "KioskReelModel" "queue" "[I", Cond.fieldLink RX8 77 "KioskReelModel" "queueMany" "[I", Cond.methodLink RX8 143 yX8_held, Cond.instanceMethod yX8_held, Cond.selects RX8 yX8_held yX8_held, Cond.code yX8_held cX8_held 4 (some .int)]
def wsX8_tick_r4 : List Cond := [Cond.methodLink RX8 146 yX8_frees, Cond.instanceMethod yX8_frees, Cond.selects RX8 yX8_frees yX8_frees, Cond.code yX8_frees cX8_frees 2 none, Cond.methodLink RX8 137 yX8_outOf, Cond.instanceMethod yX8_outOf, Cond.selects RX8 yX8_outOf yX8_outOf, Cond.code yX8_outOf cX8_outOf 6 (some .int), Cond.methodLink RX8 107 yX8_isList, Cond.instanceMethod yX8_isList, Cond.selects RX8 yX8_isList yX8_isList, Cond.code yX8_isList cX8_isList 2 (some .boolean), Cond.fieldLink RX8 93 "KioskReelModel" "lists" "I", Cond.methodLink RX8 185 yX8_watches, Cond.instanceMethod yX8_watches, Cond.selects RX8 yX8_watches yX8_watches, Cond.code yX8_watches cX8_watches 3 none, Cond.fieldLink RX8 59 "KioskReelModel" "frozenFor" "[I", Cond.fieldLink RX8 41 "KioskReelModel" "isOut" "[Z", Cond.methodLink RX8 150 yX8_leaves, Cond.instanceMethod yX8_leaves, Cond.selects RX8 yX8_leaves yX8_leaves, Cond.code yX8_leaves cX8_leaves 4 none, Cond.methodLink RX8 130 yX8_nearest]
def wsX8_tick_r5 : List Cond := [Cond.instanceMethod yX8_nearest, Cond.selects RX8 yX8_nearest yX8_nearest, Cond.code yX8_nearest cX8_nearest 4 (some .int), Cond.methodLink RX8 119 yX8_apart, Cond.static yX8_apart, Cond.code yX8_apart cX8_apart 2 (some .int), Cond.methodLink RX8 134 yX8_comesTo, Cond.instanceMethod yX8_comesTo, Cond.selects RX8 yX8_comesTo yX8_comesTo, Cond.code yX8_comesTo cX8_comesTo 4 none]
def wsX8_tick : List Cond := .code yX8_tick cX8_tick 5 (some .int) :: ((wsX8_tick_r1 ++ (wsX8_tick_r2 ++ (wsX8_tick_r3 ++ (wsX8_tick_r4 ++ wsX8_tick_r5)))) ++ wsX80 ++ (vx_atM "java/lang/ArrayIndexOutOfBoundsException" ["java/lang/IndexOutOfBoundsException", "java/lang/RuntimeException", "java/lang/Exception"]).filter goodWord)
def wsX8_slide : List Cond := .code yX8_slide cX8_slide 2 (some .int) :: ([.fieldLink RX8 62 "KioskReelModel" "slide" "[I", .methodLink RX8 123 yX8_isKiosk, .instanceMethod yX8_isKiosk, .selects RX8 yX8_isKiosk yX8_isKiosk, .initialized RX8, .code yX8_isKiosk cX8_isKiosk 2 (some .boolean), .fieldLink RX8 100 "KioskReelModel" "kiosks" "I", .methodLink RX8 96 yX8_isIn, .static yX8_isIn, .code yX8_isIn cX8_isIn 3 (some .boolean), .methodLink RX8 103 yX8_isThrown, .instanceMethod yX8_isThrown, .selects RX8 yX8_isThrown yX8_isThrown, .code yX8_isThrown cX8_isThrown 3 (some .boolean), .fieldLink RX8 89 "KioskReelModel" "thrown" "I"] ++ wsX80 ++ (vx_atM "java/lang/ArrayIndexOutOfBoundsException" ["java/lang/IndexOutOfBoundsException", "java/lang/RuntimeException", "java/lang/Exception"]).filter goodWord)
def wsX8_isDevice : List Cond := .code yX8_isDevice cX8_isDevice 1 (some .boolean) :: ([.methodLink RX8 96 yX8_isIn, .static yX8_isIn, .initialized RX8, .code yX8_isIn cX8_isIn 3 (some .boolean)])
def wsX8_holder : List Cond := .code yX8_holder cX8_holder 2 (some .int) :: ([.fieldLink RX8 71 "KioskReelModel" "holder" "[I", .methodLink RX8 188 yX8_isDevice, .static yX8_isDevice, .initialized RX8, .code yX8_isDevice cX8_isDevice 1 (some .boolean), .methodLink RX8 96 yX8_isIn, .static yX8_isIn, .code yX8_isIn cX8_isIn 3 (some .boolean), .methodLink RX8 103 yX8_isThrown, .instanceMethod yX8_isThrown, .selects RX8 yX8_isThrown yX8_isThrown, .code yX8_isThrown cX8_isThrown 3 (some .boolean), .fieldLink RX8 89 "KioskReelModel" "thrown" "I"] ++ wsX80 ++ (vx_atM "java/lang/ArrayIndexOutOfBoundsException" ["java/lang/IndexOutOfBoundsException", "java/lang/RuntimeException", "java/lang/Exception"]).filter goodWord)
def wsX8_queued : List Cond := .code yX8_queued cX8_queued 3 (some .int) :: ([.fieldLink RX8 77 "KioskReelModel" "queueMany" "[I", .fieldLink RX8 74 "KioskReelModel" "queue" "[I", .methodLink RX8 188 yX8_isDevice, .static yX8_isDevice, .initialized RX8, .code yX8_isDevice cX8_isDevice 1 (some .boolean), .methodLink RX8 96 yX8_isIn, .static yX8_isIn, .code yX8_isIn cX8_isIn 3 (some .boolean), .methodLink RX8 103 yX8_isThrown, .instanceMethod yX8_isThrown, .selects RX8 yX8_isThrown yX8_isThrown, .code yX8_isThrown cX8_isThrown 3 (some .boolean), .fieldLink RX8 89 "KioskReelModel" "thrown" "I"] ++ wsX80 ++ (vx_atM "java/lang/ArrayIndexOutOfBoundsException" ["java/lang/IndexOutOfBoundsException", "java/lang/RuntimeException", "java/lang/Exception"]).filter goodWord)
def wsX8_visitor : List Cond := .code yX8_visitor cX8_visitor 1 (some .int) :: ([.fieldLink RX8 173 "KioskReelModel" "visitors" "I", .methodLink RX8 103 yX8_isThrown, .instanceMethod yX8_isThrown, .selects RX8 yX8_isThrown yX8_isThrown, .initialized RX8, .code yX8_isThrown cX8_isThrown 3 (some .boolean), .fieldLink RX8 89 "KioskReelModel" "thrown" "I"] ++ wsX80)
def wsX8_isNoVisitor : List Cond := .code yX8_isNoVisitor cX8_isNoVisitor 2 (some .boolean) :: ([.fieldLink RX8 173 "KioskReelModel" "visitors" "I", .methodLink RX8 96 yX8_isIn, .static yX8_isIn, .initialized RX8, .code yX8_isIn cX8_isIn 3 (some .boolean), .methodLink RX8 103 yX8_isThrown, .instanceMethod yX8_isThrown, .selects RX8 yX8_isThrown yX8_isThrown, .code yX8_isThrown cX8_isThrown 3 (some .boolean), .fieldLink RX8 89 "KioskReelModel" "thrown" "I"] ++ wsX80)
def wsX8_go : List Cond := .code yX8_go cX8_go 4 (some .int) :: ([.fieldLink RX8 83 "KioskReelModel" "place" "[I", .methodLink RX8 191 yX8_isNoVisitor, .instanceMethod yX8_isNoVisitor, .selects RX8 yX8_isNoVisitor yX8_isNoVisitor, .initialized RX8, .code yX8_isNoVisitor cX8_isNoVisitor 2 (some .boolean), .fieldLink RX8 173 "KioskReelModel" "visitors" "I", .methodLink RX8 96 yX8_isIn, .static yX8_isIn, .code yX8_isIn cX8_isIn 3 (some .boolean), .methodLink RX8 103 yX8_isThrown, .instanceMethod yX8_isThrown, .selects RX8 yX8_isThrown yX8_isThrown, .code yX8_isThrown cX8_isThrown 3 (some .boolean), .fieldLink RX8 89 "KioskReelModel" "thrown" "I", .methodLink RX8 123 yX8_isKiosk, .instanceMethod yX8_isKiosk, .selects RX8 yX8_isKiosk yX8_isKiosk, .code yX8_isKiosk cX8_isKiosk 2 (some .boolean), .fieldLink RX8 100 "KioskReelModel" "kiosks" "I"] ++ wsX80 ++ (vx_atM "java/lang/ArrayIndexOutOfBoundsException" ["java/lang/IndexOutOfBoundsException", "java/lang/RuntimeException", "java/lang/Exception"]).filter goodWord)
def wsX8_ask : List Cond := .code yX8_ask cX8_ask 3 (some .boolean) :: ([.fieldLink RX8 86 "KioskReelModel" "asked" "[Z", .fieldLink RX8 80 "KioskReelModel" "saw" "[I", .methodLink RX8 191 yX8_isNoVisitor, .instanceMethod yX8_isNoVisitor, .selects RX8 yX8_isNoVisitor yX8_isNoVisitor, .initialized RX8, .code yX8_isNoVisitor cX8_isNoVisitor 2 (some .boolean), .fieldLink RX8 173 "KioskReelModel" "visitors" "I", .methodLink RX8 96 yX8_isIn, .static yX8_isIn, .code yX8_isIn cX8_isIn 3 (some .boolean), .methodLink RX8 103 yX8_isThrown, .instanceMethod yX8_isThrown, .selects RX8 yX8_isThrown yX8_isThrown, .code yX8_isThrown cX8_isThrown 3 (some .boolean), .fieldLink RX8 89 "KioskReelModel" "thrown" "I"] ++ wsX80 ++ (vx_atM "java/lang/ArrayIndexOutOfBoundsException" ["java/lang/IndexOutOfBoundsException", "java/lang/RuntimeException", "java/lang/Exception"]).filter goodWord)
def wsX8_saw : List Cond := .code yX8_saw cX8_saw 3 (some .int) :: ([.fieldLink RX8 80 "KioskReelModel" "saw" "[I", .methodLink RX8 191 yX8_isNoVisitor, .instanceMethod yX8_isNoVisitor, .selects RX8 yX8_isNoVisitor yX8_isNoVisitor, .initialized RX8, .code yX8_isNoVisitor cX8_isNoVisitor 2 (some .boolean), .fieldLink RX8 173 "KioskReelModel" "visitors" "I", .methodLink RX8 96 yX8_isIn, .static yX8_isIn, .code yX8_isIn cX8_isIn 3 (some .boolean), .methodLink RX8 103 yX8_isThrown, .instanceMethod yX8_isThrown, .selects RX8 yX8_isThrown yX8_isThrown, .code yX8_isThrown cX8_isThrown 3 (some .boolean), .fieldLink RX8 89 "KioskReelModel" "thrown" "I"] ++ wsX80 ++ (vx_atM "java/lang/ArrayIndexOutOfBoundsException" ["java/lang/IndexOutOfBoundsException", "java/lang/RuntimeException", "java/lang/Exception"]).filter goodWord)
def wsX8_done : List Cond := .code yX8_done cX8_done 1 (some .long) :: ([.fieldLink RX8 89 "KioskReelModel" "thrown" "I", .fieldLink RX8 156 "KioskReelModel" "done" "J"] ++ wsX80)
def wsX8_heldShare : List Cond := .code yX8_heldShare cX8_heldShare 1 (some .float) :: ([.fieldLink RX8 89 "KioskReelModel" "thrown" "I", .constantFloat RX8 194 (1086324736), .methodLink RX8 143 yX8_held, .instanceMethod yX8_held, .selects RX8 yX8_held yX8_held, .initialized RX8, .code yX8_held cX8_held 4 (some .int), .fieldLink RX8 71 "KioskReelModel" "holder" "[I"] ++ wsX80 ++ (vx_atM "java/lang/ArrayIndexOutOfBoundsException" ["java/lang/IndexOutOfBoundsException", "java/lang/RuntimeException", "java/lang/Exception"]).filter goodWord)
def wsJxf58ca_isNaN_12338 : List Cond := .code yJxf58ca_isNaN_12338 cJxf58ca_isNaN_12338 1 (some .boolean) :: ([])
def wsJxf58ca_floatToIntBits_5c35a : List Cond := .code yJxf58ca_floatToIntBits_5c35a cJxf58ca_floatToIntBits_5c35a 1 (some .int) :: ([.methodLink RJxf58ca 74 ⟨"java/lang/Float", "floatToRawIntBits", "(F)I"⟩, .native ⟨"java/lang/Float", "floatToRawIntBits", "(F)I"⟩, .static ⟨"java/lang/Float", "floatToRawIntBits", "(F)I"⟩, .initialized "java/lang/Float", .constant RJxf58ca 77 (2143289344), .methodLink RJxf58ca 59 yJxf58ca_isNaN_12338, .static yJxf58ca_isNaN_12338, .initialized RJxf58ca, .code yJxf58ca_isNaN_12338 cJxf58ca_isNaN_12338 1 (some .boolean)])
def wsX8_heldBits : List Cond := .code yX8_heldBits cX8_heldBits 1 (some .int) :: ([.methodLink RX8 195 yX8_heldShare, .instanceMethod yX8_heldShare, .selects RX8 yX8_heldShare yX8_heldShare, .initialized RX8, .code yX8_heldShare cX8_heldShare 1 (some .float), .fieldLink RX8 89 "KioskReelModel" "thrown" "I", .constantFloat RX8 194 (1086324736), .methodLink RX8 143 yX8_held, .instanceMethod yX8_held, .selects RX8 yX8_held yX8_held, .code yX8_held cX8_held 4 (some .int), .fieldLink RX8 71 "KioskReelModel" "holder" "[I", .methodLink RX8 199 yJxf58ca_floatToIntBits_5c35a, .static yJxf58ca_floatToIntBits_5c35a, .initialized RJxf58ca, .code yJxf58ca_floatToIntBits_5c35a cJxf58ca_floatToIntBits_5c35a 1 (some .int), .methodLink RJxf58ca 74 ⟨"java/lang/Float", "floatToRawIntBits", "(F)I"⟩, .native ⟨"java/lang/Float", "floatToRawIntBits", "(F)I"⟩, .static ⟨"java/lang/Float", "floatToRawIntBits", "(F)I"⟩, .initialized "java/lang/Float", .constant RJxf58ca 77 (2143289344), .methodLink RJxf58ca 59 yJxf58ca_isNaN_12338, .static yJxf58ca_isNaN_12338, .code yJxf58ca_isNaN_12338 cJxf58ca_isNaN_12338 1 (some .boolean)] ++ wsX80 ++ (vx_atM "java/lang/ArrayIndexOutOfBoundsException" ["java/lang/IndexOutOfBoundsException", "java/lang/RuntimeException", "java/lang/Exception"]).filter goodWord)
def wsX8_meanSeen : List Cond := .code yX8_meanSeen cX8_meanSeen 4 (some .double) :: ([.fieldLink RX8 173 "KioskReelModel" "visitors" "I", .fieldLink RX8 80 "KioskReelModel" "saw" "[I", .methodLink RX8 103 yX8_isThrown, .instanceMethod yX8_isThrown, .selects RX8 yX8_isThrown yX8_isThrown, .initialized RX8, .code yX8_isThrown cX8_isThrown 3 (some .boolean), .fieldLink RX8 89 "KioskReelModel" "thrown" "I"] ++ wsX80 ++ (vx_atM "java/lang/ArrayIndexOutOfBoundsException" ["java/lang/IndexOutOfBoundsException", "java/lang/RuntimeException", "java/lang/Exception"]).filter goodWord)
def wsX8_isSound : List Cond := .code yX8_isSound cX8_isSound 1 (some .boolean) :: ([.fieldLink RX8 89 "KioskReelModel" "thrown" "I"] ++ wsX80)
def wsJx00060_init_a7421 : List Cond := .code yJx00060_init_a7421 cJx00060_init_a7421 2 none :: ([])
def wsL_list : List Cond := .codeWith yL_list cL_list 3 (some .int) [(0, 8, 11, 13)] :: ([.classLink RL 13 "java/lang/IllegalStateException", .methodLink RL 7 yX7_list, .instanceMethod yX7_list, .selects RX7 yX7_list yX7_list, .initialized RX7, .code yX7_list cX7_list 1 (some .int), .classLink RX7 48 "java/lang/IllegalStateException", .initialized "java/lang/IllegalStateException", .fieldLink RX7 44 "KioskReel" "reelCount" "I"] ++ wsX70 ++ (vx_atM "java/lang/ArrayIndexOutOfBoundsException" ["java/lang/IndexOutOfBoundsException", "java/lang/RuntimeException", "java/lang/Exception"]).filter goodWord ++ (vx_atS RX7 52 "java/lang/IllegalStateException" ["java/lang/RuntimeException", "java/lang/Exception"]).filter goodWord)
def wsL_line_r1 : List Cond := [Cond.classLink RL 19 "java/lang/IndexOutOfBoundsException", Cond.classLink RL 21 "java/lang/IllegalArgumentException", Cond.classLink RL 13 "java/lang/IllegalStateException", Cond.methodLink RL 15 yX7_line, Cond.instanceMethod yX7_line, Cond.selects RX7 yX7_line yX7_line, Cond.initialized RX7, Cond.code yX7_line cX7_line 6 (some .int), Cond.classLink RX7 62 "java/lang/IndexOutOfBoundsException", Cond.initialized "java/lang/IndexOutOfBoundsException", Cond.classLink RX7 78 "java/lang/IllegalArgumentException", Cond.initialized "java/lang/IllegalArgumentException", Cond.classLink RX7 48 "java/lang/IllegalStateException", Cond.initialized "java/lang/IllegalStateException", Cond.fieldLink RX7 11 "KioskReel" "reels" "[LKioskReel$Reel;", Cond.fieldLink RX7 59 "KioskReel$Reel" "size" "I", Cond.methodLink RX7 55 yX7_checkList, Cond.instanceMethod yX7_checkList, Cond.selects RX7 yX7_checkList yX7_checkList, Cond.code yX7_checkList cX7_checkList 2 none, Cond.fieldLink RX7 44 "KioskReel" "reelCount" "I", Cond.methodLink RX7 67 yX7_checkKind, Cond.static yX7_checkKind, Cond.code yX7_checkKind cX7_checkKind 1 none]
def wsL_line_r2 : List Cond := [Cond.methodLink RX7 75 yX7_mostNumber, Cond.static yX7_mostNumber, Cond.code yX7_mostNumber cX7_mostNumber 1 (some .int), Cond.methodLink RX7 71 yX7_leastNumber, Cond.static yX7_leastNumber, Cond.code yX7_leastNumber cX7_leastNumber 1 (some .int), Cond.methodLink RX7 85 yX5_insertAt, Cond.instanceMethod yX5_insertAt, Cond.selects RX5 yX5_insertAt yX5_insertAt, Cond.initialized RX5, Cond.code yX5_insertAt cX5_insertAt 5 none, Cond.fieldLink RX5 19 "KioskReel$Reel" "size" "I", Cond.fieldLink RX5 9 "KioskReel$Reel" "kinds" "[C", Cond.fieldLink RX5 15 "KioskReel$Reel" "numbers" "[I"]
def wsL_line : List Cond := .codeWith yL_line cL_line 7 (some .int) [(0, 14, 17, 19), (0, 14, 21, 21), (0, 14, 25, 13)] :: ((wsL_line_r1 ++ wsL_line_r2) ++ wsX70 ++ wsX50 ++ (vx_atM "java/lang/ArrayIndexOutOfBoundsException" ["java/lang/IndexOutOfBoundsException", "java/lang/RuntimeException", "java/lang/Exception"]).filter goodWord ++ (vx_atS RX7 66 "java/lang/IndexOutOfBoundsException" ["java/lang/RuntimeException", "java/lang/Exception"]).filter goodWord ++ (vx_atS RX7 82 "java/lang/IllegalArgumentException" ["java/lang/RuntimeException", "java/lang/Exception"]).filter goodWord ++ (vx_atS RX7 52 "java/lang/IllegalStateException" ["java/lang/RuntimeException", "java/lang/Exception"]).filter goodWord)
def wsL_cut : List Cond := .codeWith yL_cut cL_cut 5 (some .int) [(0, 10, 13, 19)] :: ([.classLink RL 19 "java/lang/IndexOutOfBoundsException", .methodLink RL 23 yX7_cut, .instanceMethod yX7_cut, .selects RX7 yX7_cut yX7_cut, .initialized RX7, .code yX7_cut cX7_cut 5 (some .char), .classLink RX7 62 "java/lang/IndexOutOfBoundsException", .initialized "java/lang/IndexOutOfBoundsException", .fieldLink RX7 11 "KioskReel" "reels" "[LKioskReel$Reel;", .fieldLink RX7 59 "KioskReel$Reel" "size" "I", .fieldLink RX7 89 "KioskReel$Reel" "kinds" "[C", .methodLink RX7 55 yX7_checkList, .instanceMethod yX7_checkList, .selects RX7 yX7_checkList yX7_checkList, .code yX7_checkList cX7_checkList 2 none, .fieldLink RX7 44 "KioskReel" "reelCount" "I", .methodLink RX7 93 yX5_removeAt, .instanceMethod yX5_removeAt, .selects RX5 yX5_removeAt yX5_removeAt, .initialized RX5, .code yX5_removeAt cX5_removeAt 3 none, .fieldLink RX5 19 "KioskReel$Reel" "size" "I", .fieldLink RX5 9 "KioskReel$Reel" "kinds" "[C", .fieldLink RX5 15 "KioskReel$Reel" "numbers" "[I"] ++ wsX70 ++ wsX50 ++ (vx_atM "java/lang/ArrayIndexOutOfBoundsException" ["java/lang/IndexOutOfBoundsException", "java/lang/RuntimeException", "java/lang/Exception"]).filter goodWord ++ (vx_atS RX7 66 "java/lang/IndexOutOfBoundsException" ["java/lang/RuntimeException", "java/lang/Exception"]).filter goodWord)
def wsL_lines_r1 : List Cond := [Cond.classLink RL 19 "java/lang/IndexOutOfBoundsException", Cond.classLink RL 21 "java/lang/IllegalArgumentException", Cond.methodLink RL 27 yX7_lines, Cond.instanceMethod yX7_lines, Cond.selects RX7 yX7_lines yX7_lines, Cond.initialized RX7, Cond.code yX7_lines cX7_lines 3 (some .int), Cond.fieldLink RX7 11 "KioskReel" "reels" "[LKioskReel$Reel;", Cond.methodLink RX7 55 yX7_checkList, Cond.instanceMethod yX7_checkList, Cond.selects RX7 yX7_checkList yX7_checkList, Cond.code yX7_checkList cX7_checkList 2 none, Cond.classLink RX7 62 "java/lang/IndexOutOfBoundsException", Cond.initialized "java/lang/IndexOutOfBoundsException", Cond.fieldLink RX7 44 "KioskReel" "reelCount" "I", Cond.methodLink RX7 67 yX7_checkKind, Cond.static yX7_checkKind, Cond.code yX7_checkKind cX7_checkKind 1 none, Cond.classLink RX7 78 "java/lang/IllegalArgumentException", Cond.initialized "java/lang/IllegalArgumentException", Cond.methodLink RX7 75 yX7_mostNumber, Cond.static yX7_mostNumber, Cond.code yX7_mostNumber cX7_mostNumber 1 (some .int), Cond.methodLink RX7 96 yX5_linesOf]
def wsL_lines_r2 : List Cond := [Cond.instanceMethod yX5_linesOf, Cond.selects RX5 yX5_linesOf yX5_linesOf, Cond.initialized RX5, Cond.code yX5_linesOf cX5_linesOf 4 (some .int), Cond.fieldLink RX5 19 "KioskReel$Reel" "size" "I", Cond.fieldLink RX5 9 "KioskReel$Reel" "kinds" "[C"]
def wsL_lines : List Cond := .codeWith yL_lines cL_lines 5 (some .int) [(0, 10, 13, 19), (0, 10, 17, 21)] :: ((wsL_lines_r1 ++ wsL_lines_r2) ++ wsX70 ++ wsX50 ++ (vx_atM "java/lang/ArrayIndexOutOfBoundsException" ["java/lang/IndexOutOfBoundsException", "java/lang/RuntimeException", "java/lang/Exception"]).filter goodWord ++ (vx_atS RX7 66 "java/lang/IndexOutOfBoundsException" ["java/lang/RuntimeException", "java/lang/Exception"]).filter goodWord ++ (vx_atS RX7 82 "java/lang/IllegalArgumentException" ["java/lang/RuntimeException", "java/lang/Exception"]).filter goodWord)
def wsL_kiosk : List Cond := .codeWith yL_kiosk cL_kiosk 3 (some .int) [(0, 8, 11, 13)] :: ([.classLink RL 13 "java/lang/IllegalStateException", .methodLink RL 31 yX7_kiosk, .instanceMethod yX7_kiosk, .selects RX7 yX7_kiosk yX7_kiosk, .initialized RX7, .code yX7_kiosk cX7_kiosk 1 (some .int), .classLink RX7 48 "java/lang/IllegalStateException", .initialized "java/lang/IllegalStateException", .fieldLink RX7 99 "KioskReel" "kioskCount" "I"] ++ wsX70 ++ (vx_atM "java/lang/ArrayIndexOutOfBoundsException" ["java/lang/IndexOutOfBoundsException", "java/lang/RuntimeException", "java/lang/Exception"]).filter goodWord ++ (vx_atS RX7 52 "java/lang/IllegalStateException" ["java/lang/RuntimeException", "java/lang/Exception"]).filter goodWord)
def wsL_start_r1 : List Cond := [Cond.classLink RL 19 "java/lang/IndexOutOfBoundsException", Cond.classLink RL 13 "java/lang/IllegalStateException", Cond.methodLink RL 34 yX7_start, Cond.instanceMethod yX7_start, Cond.selects RX7 yX7_start yX7_start, Cond.initialized RX7, Cond.code yX7_start cX7_start 4 (some .int), Cond.classLink RX7 48 "java/lang/IllegalStateException", Cond.initialized "java/lang/IllegalStateException", Cond.fieldLink RX7 23 "KioskReel" "players" "[LKioskReel$Player;", Cond.fieldLink RX7 107 "KioskReel$Player" "started" "Z", Cond.fieldLink RX7 11 "KioskReel" "reels" "[LKioskReel$Reel;", Cond.fieldLink RX7 125 "KioskReel$Player" "place" "I", Cond.methodLink RX7 104 yX7_checkKiosk, Cond.instanceMethod yX7_checkKiosk, Cond.selects RX7 yX7_checkKiosk yX7_checkKiosk, Cond.code yX7_checkKiosk cX7_checkKiosk 2 none, Cond.classLink RX7 62 "java/lang/IndexOutOfBoundsException", Cond.initialized "java/lang/IndexOutOfBoundsException", Cond.fieldLink RX7 99 "KioskReel" "kioskCount" "I", Cond.methodLink RX7 55 yX7_checkList, Cond.instanceMethod yX7_checkList, Cond.selects RX7 yX7_checkList yX7_checkList, Cond.code yX7_checkList cX7_checkList 2 none]
def wsL_start_r2 : List Cond := [Cond.fieldLink RX7 44 "KioskReel" "reelCount" "I", Cond.methodLink RX7 113 yX3_begin, Cond.instanceMethod yX3_begin, Cond.selects RX3 yX3_begin yX3_begin, Cond.initialized RX3, Cond.code yX3_begin cX3_begin 3 none, Cond.fieldLink RX3 32 "KioskReel$Player" "started" "Z", Cond.fieldLink RX3 36 "KioskReel$Player" "firstList" "I", Cond.fieldLink RX3 39 "KioskReel$Player" "counter" "I", Cond.fieldLink RX3 42 "KioskReel$Player" "ticksToWait" "I", Cond.fieldLink RX3 28 "KioskReel$Player" "awaitedDevice" "I", Cond.methodLink RX3 45 yX3_beginPile, Cond.instanceMethod yX3_beginPile, Cond.selects RX3 yX3_beginPile yX3_beginPile, Cond.code yX3_beginPile cX3_beginPile 2 none, Cond.fieldLink RX3 21 "KioskReel$Player" "height" "I", Cond.methodLink RX3 49 yX3_putOnPile, Cond.instanceMethod yX3_putOnPile, Cond.selects RX3 yX3_putOnPile yX3_putOnPile, Cond.code yX3_putOnPile cX3_putOnPile 2 none, Cond.fieldLink RX3 11 "KioskReel$Player" "pile" "[LKioskReel$Reel;", Cond.fieldLink RX3 17 "KioskReel$Player" "ahead" "[I", Cond.methodLink RX3 52 yX5_copyFrom, Cond.instanceMethod yX5_copyFrom]
def wsL_start_r3 : List Cond := [Cond.selects RX5 yX5_copyFrom yX5_copyFrom, Cond.initialized RX5, Cond.code yX5_copyFrom cX5_copyFrom 3 none, Cond.fieldLink RX5 19 "KioskReel$Reel" "size" "I", Cond.fieldLink RX5 9 "KioskReel$Reel" "kinds" "[C", Cond.fieldLink RX5 15 "KioskReel$Reel" "numbers" "[I", Cond.methodLink RX7 117 yX7_nearestNotOut, Cond.instanceMethod yX7_nearestNotOut, Cond.selects RX7 yX7_nearestNotOut yX7_nearestNotOut, Cond.code yX7_nearestNotOut cX7_nearestNotOut 3 (some .int), Cond.methodLink RX7 352 yX7_isNotOut, Cond.instanceMethod yX7_isNotOut, Cond.selects RX7 yX7_isNotOut yX7_isNotOut, Cond.code yX7_isNotOut cX7_isNotOut 2 (some .boolean), Cond.fieldLink RX7 17 "KioskReel" "kiosks" "[LKioskReel$Kiosk;", Cond.fieldLink RX7 152 "KioskReel$Kiosk" "out" "Z", Cond.methodLink RX7 121 yX7_settle, Cond.instanceMethod yX7_settle, Cond.selects RX7 yX7_settle yX7_settle, Cond.code yX7_settle cX7_settle 3 none, Cond.fieldLink RX7 161 "KioskReel$Kiosk" "playing" "LKioskReel$PlayerRow;", Cond.methodLink RX7 146 yX7_leave, Cond.instanceMethod yX7_leave, Cond.selects RX7 yX7_leave yX7_leave]
def wsL_start_r4 : List Cond := [Cond.code yX7_leave cX7_leave 3 none, Cond.methodLink RX7 141 yX4_remove, Cond.instanceMethod yX4_remove, Cond.selects RX4 yX4_remove yX4_remove, Cond.initialized RX4, Cond.code yX4_remove cX4_remove 4 none, Cond.fieldLink RX4 15 "KioskReel$PlayerRow" "size" "I", Cond.fieldLink RX4 9 "KioskReel$PlayerRow" "members" "[I", Cond.methodLink RX7 355 yX4_addFirst, Cond.instanceMethod yX4_addFirst, Cond.selects RX4 yX4_addFirst yX4_addFirst, Cond.code yX4_addFirst cX4_addFirst 3 none, Cond.methodLink RX7 346 yX4_addLast, Cond.instanceMethod yX4_addLast, Cond.selects RX4 yX4_addLast yX4_addLast, Cond.code yX4_addLast cX4_addLast 2 none]
def wsL_start : List Cond := .codeWith yL_start cL_start 5 (some .int) [(0, 10, 13, 19), (0, 10, 17, 13)] :: ((wsL_start_r1 ++ (wsL_start_r2 ++ (wsL_start_r3 ++ wsL_start_r4))) ++ wsX70 ++ wsX30 ++ wsX50 ++ wsX10 ++ wsX40 ++ (vx_atM "java/lang/ArrayIndexOutOfBoundsException" ["java/lang/IndexOutOfBoundsException", "java/lang/RuntimeException", "java/lang/Exception"]).filter goodWord ++ (vx_atS RX7 52 "java/lang/IllegalStateException" ["java/lang/RuntimeException", "java/lang/Exception"]).filter goodWord ++ (vx_atS RX7 66 "java/lang/IndexOutOfBoundsException" ["java/lang/RuntimeException", "java/lang/Exception"]).filter goodWord)
def wsL_stop_r1 : List Cond := [Cond.classLink RL 19 "java/lang/IndexOutOfBoundsException", Cond.classLink RL 42 "java/util/NoSuchElementException", Cond.methodLink RL 38 yX7_stop, Cond.instanceMethod yX7_stop, Cond.selects RX7 yX7_stop yX7_stop, Cond.initialized RX7, Cond.code yX7_stop cX7_stop 4 (some .int), Cond.fieldLink RX7 29 "KioskReel" "devices" "[LKioskReel$Device;", Cond.fieldLink RX7 131 "KioskReel$Device" "owner" "I", Cond.fieldLink RX7 137 "KioskReel$Device" "queue" "LKioskReel$PlayerRow;", Cond.fieldLink RX7 23 "KioskReel" "players" "[LKioskReel$Player;", Cond.fieldLink RX7 107 "KioskReel$Player" "started" "Z", Cond.methodLink RX7 128 yX7_checkPlayer, Cond.instanceMethod yX7_checkPlayer, Cond.selects RX7 yX7_checkPlayer yX7_checkPlayer, Cond.code yX7_checkPlayer cX7_checkPlayer 2 none, Cond.classLink RX7 165 "java/util/NoSuchElementException", Cond.initialized "java/util/NoSuchElementException", Cond.methodLink RX7 104 yX7_checkKiosk, Cond.instanceMethod yX7_checkKiosk, Cond.selects RX7 yX7_checkKiosk yX7_checkKiosk, Cond.code yX7_checkKiosk cX7_checkKiosk 2 none, Cond.classLink RX7 62 "java/lang/IndexOutOfBoundsException", Cond.initialized "java/lang/IndexOutOfBoundsException"]
def wsL_stop_r2 : List Cond := [Cond.fieldLink RX7 99 "KioskReel" "kioskCount" "I", Cond.methodLink RX7 134 yX7_passOn, Cond.instanceMethod yX7_passOn, Cond.selects RX7 yX7_passOn yX7_passOn, Cond.code yX7_passOn cX7_passOn 3 none, Cond.fieldLink RX7 164 "KioskReel$PlayerRow" "size" "I", Cond.fieldLink RX7 170 "KioskReel$PlayerRow" "members" "[I", Cond.fieldLink RX7 184 "KioskReel$Player" "awaitedDevice" "I", Cond.methodLink RX7 141 yX4_remove, Cond.instanceMethod yX4_remove, Cond.selects RX4 yX4_remove yX4_remove, Cond.initialized RX4, Cond.code yX4_remove cX4_remove 4 none, Cond.fieldLink RX4 15 "KioskReel$PlayerRow" "size" "I", Cond.fieldLink RX4 9 "KioskReel$PlayerRow" "members" "[I", Cond.methodLink RX7 146 yX7_leave, Cond.instanceMethod yX7_leave, Cond.selects RX7 yX7_leave yX7_leave, Cond.code yX7_leave cX7_leave 3 none, Cond.fieldLink RX7 125 "KioskReel$Player" "place" "I", Cond.fieldLink RX7 17 "KioskReel" "kiosks" "[LKioskReel$Kiosk;", Cond.fieldLink RX7 161 "KioskReel$Kiosk" "playing" "LKioskReel$PlayerRow;"]
def wsL_stop : List Cond := .codeWith yL_stop cL_stop 4 (some .int) [(0, 9, 12, 19), (0, 9, 15, 42)] :: ((wsL_stop_r1 ++ wsL_stop_r2) ++ wsX70 ++ wsX00 ++ wsX30 ++ wsX40 ++ wsX10 ++ (vx_atM "java/lang/ArrayIndexOutOfBoundsException" ["java/lang/IndexOutOfBoundsException", "java/lang/RuntimeException", "java/lang/Exception"]).filter goodWord ++ (nx_atS RX7 169 "java/util/NoSuchElementException" ["java/lang/RuntimeException", "java/lang/Exception"]).filter goodWord ++ (vx_atS RX7 66 "java/lang/IndexOutOfBoundsException" ["java/lang/RuntimeException", "java/lang/Exception"]).filter goodWord)
def wsL_freeze : List Cond := .codeWith yL_freeze cL_freeze 4 (some .int) [(0, 16, 19, 19)] :: ([.classLink RL 19 "java/lang/IndexOutOfBoundsException", .methodLink RL 44 yX7_freeze, .instanceMethod yX7_freeze, .selects RX7 yX7_freeze yX7_freeze, .initialized RX7, .code yX7_freeze cX7_freeze 3 (some .boolean), .fieldLink RX7 17 "KioskReel" "kiosks" "[LKioskReel$Kiosk;", .fieldLink RX7 149 "KioskReel$Kiosk" "frozen" "Z", .methodLink RX7 104 yX7_checkKiosk, .instanceMethod yX7_checkKiosk, .selects RX7 yX7_checkKiosk yX7_checkKiosk, .code yX7_checkKiosk cX7_checkKiosk 2 none, .classLink RX7 62 "java/lang/IndexOutOfBoundsException", .initialized "java/lang/IndexOutOfBoundsException", .fieldLink RX7 99 "KioskReel" "kioskCount" "I"] ++ wsX70 ++ wsX10 ++ (vx_atM "java/lang/ArrayIndexOutOfBoundsException" ["java/lang/IndexOutOfBoundsException", "java/lang/RuntimeException", "java/lang/Exception"]).filter goodWord ++ (vx_atS RX7 66 "java/lang/IndexOutOfBoundsException" ["java/lang/RuntimeException", "java/lang/Exception"]).filter goodWord)
def wsL_thaw_r1 : List Cond := [Cond.classLink RL 19 "java/lang/IndexOutOfBoundsException", Cond.methodLink RL 48 yX7_thaw, Cond.instanceMethod yX7_thaw, Cond.selects RX7 yX7_thaw yX7_thaw, Cond.initialized RX7, Cond.code yX7_thaw cX7_thaw 4 (some .int), Cond.fieldLink RX7 17 "KioskReel" "kiosks" "[LKioskReel$Kiosk;", Cond.fieldLink RX7 152 "KioskReel$Kiosk" "out" "Z", Cond.fieldLink RX7 149 "KioskReel$Kiosk" "frozen" "Z", Cond.fieldLink RX7 155 "KioskReel$Kiosk" "frozenTicks" "I", Cond.methodLink RX7 104 yX7_checkKiosk, Cond.instanceMethod yX7_checkKiosk, Cond.selects RX7 yX7_checkKiosk yX7_checkKiosk, Cond.code yX7_checkKiosk cX7_checkKiosk 2 none, Cond.classLink RX7 62 "java/lang/IndexOutOfBoundsException", Cond.initialized "java/lang/IndexOutOfBoundsException", Cond.fieldLink RX7 99 "KioskReel" "kioskCount" "I", Cond.methodLink RX7 158 yX7_gather, Cond.instanceMethod yX7_gather, Cond.selects RX7 yX7_gather yX7_gather, Cond.code yX7_gather cX7_gather 4 (some .int), Cond.fieldLink RX7 23 "KioskReel" "players" "[LKioskReel$Player;", Cond.fieldLink RX7 107 "KioskReel$Player" "started" "Z", Cond.fieldLink RX7 125 "KioskReel$Player" "place" "I"]
def wsL_thaw_r2 : List Cond := [Cond.methodLink RX7 121 yX7_settle, Cond.instanceMethod yX7_settle, Cond.selects RX7 yX7_settle yX7_settle, Cond.code yX7_settle cX7_settle 3 none, Cond.fieldLink RX7 161 "KioskReel$Kiosk" "playing" "LKioskReel$PlayerRow;", Cond.methodLink RX7 146 yX7_leave, Cond.instanceMethod yX7_leave, Cond.selects RX7 yX7_leave yX7_leave, Cond.code yX7_leave cX7_leave 3 none, Cond.methodLink RX7 141 yX4_remove, Cond.instanceMethod yX4_remove, Cond.selects RX4 yX4_remove yX4_remove, Cond.initialized RX4, Cond.code yX4_remove cX4_remove 4 none, Cond.fieldLink RX4 15 "KioskReel$PlayerRow" "size" "I", Cond.fieldLink RX4 9 "KioskReel$PlayerRow" "members" "[I", Cond.methodLink RX7 355 yX4_addFirst, Cond.instanceMethod yX4_addFirst, Cond.selects RX4 yX4_addFirst yX4_addFirst, Cond.code yX4_addFirst cX4_addFirst 3 none, Cond.methodLink RX7 346 yX4_addLast, Cond.instanceMethod yX4_addLast, Cond.selects RX4 yX4_addLast yX4_addLast, Cond.code yX4_addLast cX4_addLast 2 none]
def wsL_thaw : List Cond := .codeWith yL_thaw cL_thaw 4 (some .int) [(0, 9, 12, 19)] :: ((wsL_thaw_r1 ++ wsL_thaw_r2) ++ wsX70 ++ wsX10 ++ wsX30 ++ wsX40 ++ (vx_atM "java/lang/ArrayIndexOutOfBoundsException" ["java/lang/IndexOutOfBoundsException", "java/lang/RuntimeException", "java/lang/Exception"]).filter goodWord ++ (vx_atS RX7 66 "java/lang/IndexOutOfBoundsException" ["java/lang/RuntimeException", "java/lang/Exception"]).filter goodWord)
def wsL_state : List Cond := .codeWith yL_state cL_state 4 (some .int) [(0, 9, 12, 19)] :: ([.classLink RL 19 "java/lang/IndexOutOfBoundsException", .methodLink RL 51 yX7_state, .instanceMethod yX7_state, .selects RX7 yX7_state yX7_state, .initialized RX7, .code yX7_state cX7_state 2 (some .char), .fieldLink RX7 17 "KioskReel" "kiosks" "[LKioskReel$Kiosk;", .fieldLink RX7 152 "KioskReel$Kiosk" "out" "Z", .fieldLink RX7 149 "KioskReel$Kiosk" "frozen" "Z", .methodLink RX7 104 yX7_checkKiosk, .instanceMethod yX7_checkKiosk, .selects RX7 yX7_checkKiosk yX7_checkKiosk, .code yX7_checkKiosk cX7_checkKiosk 2 none, .classLink RX7 62 "java/lang/IndexOutOfBoundsException", .initialized "java/lang/IndexOutOfBoundsException", .fieldLink RX7 99 "KioskReel" "kioskCount" "I"] ++ wsX70 ++ wsX10 ++ (vx_atM "java/lang/ArrayIndexOutOfBoundsException" ["java/lang/IndexOutOfBoundsException", "java/lang/RuntimeException", "java/lang/Exception"]).filter goodWord ++ (vx_atS RX7 66 "java/lang/IndexOutOfBoundsException" ["java/lang/RuntimeException", "java/lang/Exception"]).filter goodWord)
def wsL_plays : List Cond := .codeWith yL_plays cL_plays 4 (some .int) [(0, 9, 12, 19), (0, 9, 15, 42)] :: ([.classLink RL 19 "java/lang/IndexOutOfBoundsException", .classLink RL 42 "java/util/NoSuchElementException", .methodLink RL 55 yX7_plays, .instanceMethod yX7_plays, .selects RX7 yX7_plays yX7_plays, .initialized RX7, .code yX7_plays cX7_plays 2 (some .int), .fieldLink RX7 23 "KioskReel" "players" "[LKioskReel$Player;", .fieldLink RX7 125 "KioskReel$Player" "place" "I", .methodLink RX7 128 yX7_checkPlayer, .instanceMethod yX7_checkPlayer, .selects RX7 yX7_checkPlayer yX7_checkPlayer, .code yX7_checkPlayer cX7_checkPlayer 2 none, .classLink RX7 165 "java/util/NoSuchElementException", .initialized "java/util/NoSuchElementException", .fieldLink RX7 107 "KioskReel$Player" "started" "Z", .methodLink RX7 104 yX7_checkKiosk, .instanceMethod yX7_checkKiosk, .selects RX7 yX7_checkKiosk yX7_checkKiosk, .code yX7_checkKiosk cX7_checkKiosk 2 none, .classLink RX7 62 "java/lang/IndexOutOfBoundsException", .initialized "java/lang/IndexOutOfBoundsException", .fieldLink RX7 99 "KioskReel" "kioskCount" "I"] ++ wsX70 ++ wsX30 ++ (vx_atM "java/lang/ArrayIndexOutOfBoundsException" ["java/lang/IndexOutOfBoundsException", "java/lang/RuntimeException", "java/lang/Exception"]).filter goodWord ++ (nx_atS RX7 169 "java/util/NoSuchElementException" ["java/lang/RuntimeException", "java/lang/Exception"]).filter goodWord ++ (vx_atS RX7 66 "java/lang/IndexOutOfBoundsException" ["java/lang/RuntimeException", "java/lang/Exception"]).filter goodWord)
def wsL_playerAt : List Cond := .codeWith yL_playerAt cL_playerAt 5 (some .int) [(0, 10, 13, 19), (0, 10, 17, 42)] :: ([.classLink RL 19 "java/lang/IndexOutOfBoundsException", .classLink RL 42 "java/util/NoSuchElementException", .methodLink RL 58 yX7_playerAt, .instanceMethod yX7_playerAt, .selects RX7 yX7_playerAt yX7_playerAt, .initialized RX7, .code yX7_playerAt cX7_playerAt 4 (some .int), .classLink RX7 165 "java/util/NoSuchElementException", .initialized "java/util/NoSuchElementException", .fieldLink RX7 17 "KioskReel" "kiosks" "[LKioskReel$Kiosk;", .fieldLink RX7 161 "KioskReel$Kiosk" "playing" "LKioskReel$PlayerRow;", .fieldLink RX7 164 "KioskReel$PlayerRow" "size" "I", .fieldLink RX7 170 "KioskReel$PlayerRow" "members" "[I", .methodLink RX7 104 yX7_checkKiosk, .instanceMethod yX7_checkKiosk, .selects RX7 yX7_checkKiosk yX7_checkKiosk, .code yX7_checkKiosk cX7_checkKiosk 2 none, .classLink RX7 62 "java/lang/IndexOutOfBoundsException", .initialized "java/lang/IndexOutOfBoundsException", .fieldLink RX7 99 "KioskReel" "kioskCount" "I"] ++ wsX70 ++ wsX10 ++ wsX40 ++ (vx_atM "java/lang/ArrayIndexOutOfBoundsException" ["java/lang/IndexOutOfBoundsException", "java/lang/RuntimeException", "java/lang/Exception"]).filter goodWord ++ (nx_atS RX7 169 "java/util/NoSuchElementException" ["java/lang/RuntimeException", "java/lang/Exception"]).filter goodWord ++ (vx_atS RX7 66 "java/lang/IndexOutOfBoundsException" ["java/lang/RuntimeException", "java/lang/Exception"]).filter goodWord)
def wsL_next_r1 : List Cond := [Cond.classLink RL 19 "java/lang/IndexOutOfBoundsException", Cond.classLink RL 42 "java/util/NoSuchElementException", Cond.methodLink RL 61 yX7_next, Cond.instanceMethod yX7_next, Cond.selects RX7 yX7_next yX7_next, Cond.initialized RX7, Cond.code yX7_next cX7_next 3 (some .int), Cond.fieldLink RX7 23 "KioskReel" "players" "[LKioskReel$Player;", Cond.fieldLink RX7 174 "KioskReel$Player" "height" "I", Cond.methodLink RX7 128 yX7_checkPlayer, Cond.instanceMethod yX7_checkPlayer, Cond.selects RX7 yX7_checkPlayer yX7_checkPlayer, Cond.code yX7_checkPlayer cX7_checkPlayer 2 none, Cond.classLink RX7 165 "java/util/NoSuchElementException", Cond.initialized "java/util/NoSuchElementException", Cond.fieldLink RX7 107 "KioskReel$Player" "started" "Z", Cond.methodLink RX7 104 yX7_checkKiosk, Cond.instanceMethod yX7_checkKiosk, Cond.selects RX7 yX7_checkKiosk yX7_checkKiosk, Cond.code yX7_checkKiosk cX7_checkKiosk 2 none, Cond.classLink RX7 62 "java/lang/IndexOutOfBoundsException", Cond.initialized "java/lang/IndexOutOfBoundsException", Cond.fieldLink RX7 99 "KioskReel" "kioskCount" "I", Cond.methodLink RX7 177 yX3_lineAhead]
def wsL_next_r2 : List Cond := [Cond.instanceMethod yX3_lineAhead, Cond.selects RX3 yX3_lineAhead yX3_lineAhead, Cond.initialized RX3, Cond.code yX3_lineAhead cX3_lineAhead 1 (some .int), Cond.fieldLink RX3 17 "KioskReel$Player" "ahead" "[I", Cond.fieldLink RX3 21 "KioskReel$Player" "height" "I"]
def wsL_next : List Cond := .codeWith yL_next cL_next 4 (some .int) [(0, 9, 12, 19), (0, 9, 15, 42)] :: ((wsL_next_r1 ++ wsL_next_r2) ++ wsX70 ++ wsX30 ++ (vx_atM "java/lang/ArrayIndexOutOfBoundsException" ["java/lang/IndexOutOfBoundsException", "java/lang/RuntimeException", "java/lang/Exception"]).filter goodWord ++ (nx_atS RX7 169 "java/util/NoSuchElementException" ["java/lang/RuntimeException", "java/lang/Exception"]).filter goodWord ++ (vx_atS RX7 66 "java/lang/IndexOutOfBoundsException" ["java/lang/RuntimeException", "java/lang/Exception"]).filter goodWord)
def wsL_count : List Cond := .codeWith yL_count cL_count 4 (some .int) [(0, 9, 12, 19), (0, 9, 15, 42)] :: ([.classLink RL 19 "java/lang/IndexOutOfBoundsException", .classLink RL 42 "java/util/NoSuchElementException", .methodLink RL 64 yX7_count, .instanceMethod yX7_count, .selects RX7 yX7_count yX7_count, .initialized RX7, .code yX7_count cX7_count 2 (some .int), .fieldLink RX7 23 "KioskReel" "players" "[LKioskReel$Player;", .fieldLink RX7 181 "KioskReel$Player" "counter" "I", .methodLink RX7 128 yX7_checkPlayer, .instanceMethod yX7_checkPlayer, .selects RX7 yX7_checkPlayer yX7_checkPlayer, .code yX7_checkPlayer cX7_checkPlayer 2 none, .classLink RX7 165 "java/util/NoSuchElementException", .initialized "java/util/NoSuchElementException", .fieldLink RX7 107 "KioskReel$Player" "started" "Z", .methodLink RX7 104 yX7_checkKiosk, .instanceMethod yX7_checkKiosk, .selects RX7 yX7_checkKiosk yX7_checkKiosk, .code yX7_checkKiosk cX7_checkKiosk 2 none, .classLink RX7 62 "java/lang/IndexOutOfBoundsException", .initialized "java/lang/IndexOutOfBoundsException", .fieldLink RX7 99 "KioskReel" "kioskCount" "I"] ++ wsX70 ++ wsX30 ++ (vx_atM "java/lang/ArrayIndexOutOfBoundsException" ["java/lang/IndexOutOfBoundsException", "java/lang/RuntimeException", "java/lang/Exception"]).filter goodWord ++ (nx_atS RX7 169 "java/util/NoSuchElementException" ["java/lang/RuntimeException", "java/lang/Exception"]).filter goodWord ++ (vx_atS RX7 66 "java/lang/IndexOutOfBoundsException" ["java/lang/RuntimeException", "java/lang/Exception"]).filter goodWord)
def wsL_waits : List Cond := .codeWith yL_waits cL_waits 4 (some .int) [(0, 9, 12, 19), (0, 9, 15, 42)] :: ([.classLink RL 19 "java/lang/IndexOutOfBoundsException", .classLink RL 42 "java/util/NoSuchElementException", .methodLink RL 67 yX7_waits, .instanceMethod yX7_waits, .selects RX7 yX7_waits yX7_waits, .initialized RX7, .code yX7_waits cX7_waits 3 (some .int), .fieldLink RX7 23 "KioskReel" "players" "[LKioskReel$Player;", .fieldLink RX7 184 "KioskReel$Player" "awaitedDevice" "I", .fieldLink RX7 187 "KioskReel$Player" "ticksToWait" "I", .methodLink RX7 128 yX7_checkPlayer, .instanceMethod yX7_checkPlayer, .selects RX7 yX7_checkPlayer yX7_checkPlayer, .code yX7_checkPlayer cX7_checkPlayer 2 none, .classLink RX7 165 "java/util/NoSuchElementException", .initialized "java/util/NoSuchElementException", .fieldLink RX7 107 "KioskReel$Player" "started" "Z", .methodLink RX7 104 yX7_checkKiosk, .instanceMethod yX7_checkKiosk, .selects RX7 yX7_checkKiosk yX7_checkKiosk, .code yX7_checkKiosk cX7_checkKiosk 2 none, .classLink RX7 62 "java/lang/IndexOutOfBoundsException", .initialized "java/lang/IndexOutOfBoundsException", .fieldLink RX7 99 "KioskReel" "kioskCount" "I"] ++ wsX70 ++ wsX30 ++ (vx_atM "java/lang/ArrayIndexOutOfBoundsException" ["java/lang/IndexOutOfBoundsException", "java/lang/RuntimeException", "java/lang/Exception"]).filter goodWord ++ (nx_atS RX7 169 "java/util/NoSuchElementException" ["java/lang/RuntimeException", "java/lang/Exception"]).filter goodWord ++ (vx_atS RX7 66 "java/lang/IndexOutOfBoundsException" ["java/lang/RuntimeException", "java/lang/Exception"]).filter goodWord)
def wsL_tick_r1 : List Cond := [Cond.classLink RL 21 "java/lang/IllegalArgumentException", Cond.methodLink RL 70 yX7_tick, Cond.instanceMethod yX7_tick, Cond.selects RX7 yX7_tick yX7_tick, Cond.initialized RX7, Cond.code yX7_tick cX7_tick 4 (some .int), Cond.classLink RX7 78 "java/lang/IllegalArgumentException", Cond.initialized "java/lang/IllegalArgumentException", Cond.methodLink RX7 192 yX7_playOneTick, Cond.instanceMethod yX7_playOneTick, Cond.selects RX7 yX7_playOneTick yX7_playOneTick, Cond.code yX7_playOneTick cX7_playOneTick 5 (some .int), Cond.fieldLink RX7 99 "KioskReel" "kioskCount" "I", Cond.fieldLink RX7 17 "KioskReel" "kiosks" "[LKioskReel$Kiosk;", Cond.fieldLink RX7 149 "KioskReel$Kiosk" "frozen" "Z", Cond.fieldLink RX7 161 "KioskReel$Kiosk" "playing" "LKioskReel$PlayerRow;", Cond.fieldLink RX7 164 "KioskReel$PlayerRow" "size" "I", Cond.fieldLink RX7 23 "KioskReel" "players" "[LKioskReel$Player;", Cond.fieldLink RX7 170 "KioskReel$PlayerRow" "members" "[I", Cond.methodLink RX7 272 yX7_takeTurn, Cond.instanceMethod yX7_takeTurn, Cond.selects RX7 yX7_takeTurn yX7_takeTurn, Cond.code yX7_takeTurn cX7_takeTurn 5 (some .int), Cond.fieldLink RX7 187 "KioskReel$Player" "ticksToWait" "I"]
def wsL_tick_r2 : List Cond := [Cond.fieldLink RX7 184 "KioskReel$Player" "awaitedDevice" "I", Cond.fieldLink RX7 276 "KioskReel$Outcome" "GOES_ON" "LKioskReel$Outcome;", Cond.fieldLink RX7 286 "KioskReel$Outcome" "SHOWN" "LKioskReel$Outcome;", Cond.methodLink RX7 282 yX7_doLine, Cond.instanceMethod yX7_doLine, Cond.selects RX7 yX7_doLine yX7_doLine, Cond.code yX7_doLine cX7_doLine 5 (some (.object "KioskReel$Outcome")), Cond.fieldLink RX7 230 "KioskReel" "linesDone" "J", Cond.fieldLink RX7 11 "KioskReel" "reels" "[LKioskReel$Reel;", Cond.fieldLink RX7 295 "KioskReel$Player" "firstList" "I", Cond.fieldLink RX7 302 "KioskReel$Player" "pile" "[LKioskReel$Reel;", Cond.fieldLink RX7 174 "KioskReel$Player" "height" "I", Cond.fieldLink RX7 89 "KioskReel$Reel" "kinds" "[C", Cond.fieldLink RX7 308 "KioskReel$Reel" "numbers" "[I", Cond.methodLink RX7 289 yX3_takeEndedFromPile, Cond.instanceMethod yX3_takeEndedFromPile, Cond.selects RX3 yX3_takeEndedFromPile yX3_takeEndedFromPile, Cond.initialized RX3, Cond.code yX3_takeEndedFromPile cX3_takeEndedFromPile 1 none, Cond.fieldLink RX3 21 "KioskReel$Player" "height" "I", Cond.methodLink RX3 55 yX3_isAtEnd, Cond.instanceMethod yX3_isAtEnd, Cond.selects RX3 yX3_isAtEnd yX3_isAtEnd, Cond.code yX3_isAtEnd cX3_isAtEnd 1 (some .boolean)]
def wsL_tick_r3 : List Cond := [Cond.fieldLink RX3 11 "KioskReel$Player" "pile" "[LKioskReel$Reel;", Cond.fieldLink RX3 63 "KioskReel$Reel" "size" "I", Cond.methodLink RX3 59 yX3_lineAhead, Cond.instanceMethod yX3_lineAhead, Cond.selects RX3 yX3_lineAhead yX3_lineAhead, Cond.code yX3_lineAhead cX3_lineAhead 1 (some .int), Cond.fieldLink RX3 17 "KioskReel$Player" "ahead" "[I", Cond.methodLink RX7 292 yX3_isAtEnd, Cond.methodLink RX7 298 yX3_beginPile, Cond.instanceMethod yX3_beginPile, Cond.selects RX3 yX3_beginPile yX3_beginPile, Cond.code yX3_beginPile cX3_beginPile 2 none, Cond.methodLink RX3 49 yX3_putOnPile, Cond.instanceMethod yX3_putOnPile, Cond.selects RX3 yX3_putOnPile yX3_putOnPile, Cond.code yX3_putOnPile cX3_putOnPile 2 none, Cond.methodLink RX3 52 yX5_copyFrom, Cond.instanceMethod yX5_copyFrom, Cond.selects RX5 yX5_copyFrom yX5_copyFrom, Cond.initialized RX5, Cond.code yX5_copyFrom cX5_copyFrom 3 none, Cond.fieldLink RX5 19 "KioskReel$Reel" "size" "I", Cond.fieldLink RX5 9 "KioskReel$Reel" "kinds" "[C", Cond.fieldLink RX5 15 "KioskReel$Reel" "numbers" "[I"]
def wsL_tick_r4 : List Cond := [Cond.methodLink RX7 177 yX3_lineAhead, Cond.methodLink RX7 305 yX3_goOnAt, Cond.instanceMethod yX3_goOnAt, Cond.selects RX3 yX3_goOnAt yX3_goOnAt, Cond.code yX3_goOnAt cX3_goOnAt 2 none, Cond.methodLink RX7 311 yX7_obey, Cond.instanceMethod yX7_obey, Cond.selects RX7 yX7_obey yX7_obey, Cond.code yX7_obey cX7_obey 5 (some (.object "KioskReel$Outcome")), Cond.fieldLink RX7 125 "KioskReel$Player" "place" "I", Cond.fieldLink RX7 319 "KioskReel$Outcome" "ENDS_TURN" "LKioskReel$Outcome;", Cond.fieldLink RX7 29 "KioskReel" "devices" "[LKioskReel$Device;", Cond.fieldLink RX7 131 "KioskReel$Device" "owner" "I", Cond.fieldLink RX7 44 "KioskReel" "reelCount" "I", Cond.fieldLink RX7 181 "KioskReel$Player" "counter" "I", Cond.methodLink RX7 315 yX7_show, Cond.instanceMethod yX7_show, Cond.selects RX7 yX7_show yX7_show, Cond.code yX7_show cX7_show 6 (some (.object "KioskReel$Outcome")), Cond.fieldLink RX7 208 "KioskReel" "visitorCount" "I", Cond.fieldLink RX7 35 "KioskReel" "visitors" "[LKioskReel$Visitor;", Cond.fieldLink RX7 216 "KioskReel$Visitor" "place" "I", Cond.fieldLink RX7 198 "KioskReel$Kiosk" "lastSlide" "I", Cond.methodLink RX7 337 yX6_wouldSee]
def wsL_tick_r5 : List Cond := [Cond.instanceMethod yX6_wouldSee, Cond.selects RX6 yX6_wouldSee yX6_wouldSee, Cond.initialized RX6, Cond.code yX6_wouldSee cX6_wouldSee 2 (some .boolean), Cond.fieldLink RX6 9 "KioskReel$Visitor" "timesSeen" "[I", Cond.fieldLink RX6 18 "KioskReel$Visitor" "wants" "[Z", Cond.methodLink RX7 340 yX6_see, Cond.instanceMethod yX6_see, Cond.selects RX6 yX6_see yX6_see, Cond.code yX6_see cX6_see 2 none, Cond.methodLink RX7 333 yX7_hasVisitor, Cond.instanceMethod yX7_hasVisitor, Cond.selects RX7 yX7_hasVisitor yX7_hasVisitor, Cond.code yX7_hasVisitor cX7_hasVisitor 3 (some .boolean), Cond.methodLink RX7 322 yX7_lease, Cond.instanceMethod yX7_lease, Cond.selects RX7 yX7_lease yX7_lease, Cond.code yX7_lease cX7_lease 5 (some (.object "KioskReel$Outcome")), Cond.fieldLink RX7 137 "KioskReel$Device" "queue" "LKioskReel$PlayerRow;", Cond.methodLink RX7 343 yX7_devicesOf, Cond.instanceMethod yX7_devicesOf, Cond.selects RX7 yX7_devicesOf yX7_devicesOf, Cond.code yX7_devicesOf cX7_devicesOf 4 (some .int), Cond.methodLink RX7 346 yX4_addLast]
def wsL_tick_r6 : List Cond := [Cond.instanceMethod yX4_addLast, Cond.selects RX4 yX4_addLast yX4_addLast, Cond.initialized RX4, Cond.code yX4_addLast cX4_addLast 2 none, Cond.fieldLink RX4 15 "KioskReel$PlayerRow" "size" "I", Cond.fieldLink RX4 9 "KioskReel$PlayerRow" "members" "[I", Cond.methodLink RX7 134 yX7_passOn, Cond.instanceMethod yX7_passOn, Cond.selects RX7 yX7_passOn yX7_passOn, Cond.code yX7_passOn cX7_passOn 3 none, Cond.methodLink RX7 141 yX4_remove, Cond.instanceMethod yX4_remove, Cond.selects RX4 yX4_remove yX4_remove, Cond.code yX4_remove cX4_remove 4 none, Cond.methodLink RX7 326 yX3_putOnPile, Cond.methodLink RX7 329 yX7_branch, Cond.instanceMethod yX7_branch, Cond.selects RX7 yX7_branch yX7_branch, Cond.code yX7_branch cX7_branch 4 none, Cond.methodLink RX7 195 yX7_watchFrozenKiosks, Cond.instanceMethod yX7_watchFrozenKiosks, Cond.selects RX7 yX7_watchFrozenKiosks yX7_watchFrozenKiosks, Cond.code yX7_watchFrozenKiosks cX7_watchFrozenKiosks 3 none, Cond.fieldLink RX7 152 "KioskReel$Kiosk" "out" "Z"]
def wsL_tick_r7 : List Cond := [Cond.fieldLink RX7 155 "KioskReel$Kiosk" "frozenTicks" "I", Cond.methodLink RX7 349 yX7_makeOut, Cond.instanceMethod yX7_makeOut, Cond.selects RX7 yX7_makeOut yX7_makeOut, Cond.code yX7_makeOut cX7_makeOut 6 none, Cond.methodLink RX7 117 yX7_nearestNotOut, Cond.instanceMethod yX7_nearestNotOut, Cond.selects RX7 yX7_nearestNotOut yX7_nearestNotOut, Cond.code yX7_nearestNotOut cX7_nearestNotOut 3 (some .int), Cond.methodLink RX7 352 yX7_isNotOut, Cond.instanceMethod yX7_isNotOut, Cond.selects RX7 yX7_isNotOut yX7_isNotOut, Cond.code yX7_isNotOut cX7_isNotOut 2 (some .boolean), Cond.methodLink RX7 121 yX7_settle, Cond.instanceMethod yX7_settle, Cond.selects RX7 yX7_settle yX7_settle, Cond.code yX7_settle cX7_settle 3 none, Cond.methodLink RX7 146 yX7_leave, Cond.instanceMethod yX7_leave, Cond.selects RX7 yX7_leave yX7_leave, Cond.code yX7_leave cX7_leave 3 none, Cond.methodLink RX7 355 yX4_addFirst, Cond.instanceMethod yX4_addFirst, Cond.selects RX4 yX4_addFirst yX4_addFirst]
def wsL_tick_r8 : List Cond := [Cond.code yX4_addFirst cX4_addFirst 3 none]
def wsL_tick : List Cond := .codeWith yL_tick cL_tick 4 (some .int) [(0, 9, 12, 21)] :: ((wsL_tick_r1 ++ (wsL_tick_r2 ++ (wsL_tick_r3 ++ (wsL_tick_r4 ++ (wsL_tick_r5 ++ (wsL_tick_r6 ++ (wsL_tick_r7 ++ wsL_tick_r8))))))) ++ wsX70 ++ wsX10 ++ wsX40 ++ wsX30 ++ wsX50 ++ wsX00 ++ wsX60 ++ (vx_atM "java/lang/ArrayIndexOutOfBoundsException" ["java/lang/IndexOutOfBoundsException", "java/lang/RuntimeException", "java/lang/Exception"]).filter goodWord ++ (vx_atS RX7 82 "java/lang/IllegalArgumentException" ["java/lang/RuntimeException", "java/lang/Exception"]).filter goodWord)
def wsL_slide : List Cond := .codeWith yL_slide cL_slide 4 (some .int) [(0, 9, 12, 19), (0, 9, 15, 42)] :: ([.classLink RL 19 "java/lang/IndexOutOfBoundsException", .classLink RL 42 "java/util/NoSuchElementException", .methodLink RL 73 yX7_slide, .instanceMethod yX7_slide, .selects RX7 yX7_slide yX7_slide, .initialized RX7, .code yX7_slide cX7_slide 3 (some .int), .classLink RX7 165 "java/util/NoSuchElementException", .initialized "java/util/NoSuchElementException", .fieldLink RX7 17 "KioskReel" "kiosks" "[LKioskReel$Kiosk;", .fieldLink RX7 198 "KioskReel$Kiosk" "lastSlide" "I", .methodLink RX7 104 yX7_checkKiosk, .instanceMethod yX7_checkKiosk, .selects RX7 yX7_checkKiosk yX7_checkKiosk, .code yX7_checkKiosk cX7_checkKiosk 2 none, .classLink RX7 62 "java/lang/IndexOutOfBoundsException", .initialized "java/lang/IndexOutOfBoundsException", .fieldLink RX7 99 "KioskReel" "kioskCount" "I"] ++ wsX70 ++ wsX10 ++ (vx_atM "java/lang/ArrayIndexOutOfBoundsException" ["java/lang/IndexOutOfBoundsException", "java/lang/RuntimeException", "java/lang/Exception"]).filter goodWord ++ (nx_atS RX7 169 "java/util/NoSuchElementException" ["java/lang/RuntimeException", "java/lang/Exception"]).filter goodWord ++ (vx_atS RX7 66 "java/lang/IndexOutOfBoundsException" ["java/lang/RuntimeException", "java/lang/Exception"]).filter goodWord)
def wsL_holder : List Cond := .codeWith yL_holder cL_holder 4 (some .int) [(0, 9, 12, 19), (0, 9, 15, 42)] :: ([.classLink RL 19 "java/lang/IndexOutOfBoundsException", .classLink RL 42 "java/util/NoSuchElementException", .methodLink RL 76 yX7_holder, .instanceMethod yX7_holder, .selects RX7 yX7_holder yX7_holder, .initialized RX7, .code yX7_holder cX7_holder 3 (some .int), .classLink RX7 165 "java/util/NoSuchElementException", .initialized "java/util/NoSuchElementException", .fieldLink RX7 29 "KioskReel" "devices" "[LKioskReel$Device;", .fieldLink RX7 131 "KioskReel$Device" "owner" "I", .methodLink RX7 203 yX7_checkDevice, .static yX7_checkDevice, .code yX7_checkDevice cX7_checkDevice 1 none, .classLink RX7 62 "java/lang/IndexOutOfBoundsException", .initialized "java/lang/IndexOutOfBoundsException"] ++ wsX70 ++ wsX00 ++ (vx_atM "java/lang/ArrayIndexOutOfBoundsException" ["java/lang/IndexOutOfBoundsException", "java/lang/RuntimeException", "java/lang/Exception"]).filter goodWord ++ (nx_atS RX7 169 "java/util/NoSuchElementException" ["java/lang/RuntimeException", "java/lang/Exception"]).filter goodWord ++ (vx_atS RX7 66 "java/lang/IndexOutOfBoundsException" ["java/lang/RuntimeException", "java/lang/Exception"]).filter goodWord)
def wsL_queued : List Cond := .codeWith yL_queued cL_queued 5 (some .int) [(0, 10, 13, 19), (0, 10, 17, 42)] :: ([.classLink RL 19 "java/lang/IndexOutOfBoundsException", .classLink RL 42 "java/util/NoSuchElementException", .methodLink RL 79 yX7_queued, .instanceMethod yX7_queued, .selects RX7 yX7_queued yX7_queued, .initialized RX7, .code yX7_queued cX7_queued 4 (some .int), .classLink RX7 165 "java/util/NoSuchElementException", .initialized "java/util/NoSuchElementException", .fieldLink RX7 29 "KioskReel" "devices" "[LKioskReel$Device;", .fieldLink RX7 137 "KioskReel$Device" "queue" "LKioskReel$PlayerRow;", .fieldLink RX7 164 "KioskReel$PlayerRow" "size" "I", .fieldLink RX7 170 "KioskReel$PlayerRow" "members" "[I", .methodLink RX7 203 yX7_checkDevice, .static yX7_checkDevice, .code yX7_checkDevice cX7_checkDevice 1 none, .classLink RX7 62 "java/lang/IndexOutOfBoundsException", .initialized "java/lang/IndexOutOfBoundsException"] ++ wsX70 ++ wsX00 ++ wsX40 ++ (vx_atM "java/lang/ArrayIndexOutOfBoundsException" ["java/lang/IndexOutOfBoundsException", "java/lang/RuntimeException", "java/lang/Exception"]).filter goodWord ++ (nx_atS RX7 169 "java/util/NoSuchElementException" ["java/lang/RuntimeException", "java/lang/Exception"]).filter goodWord ++ (vx_atS RX7 66 "java/lang/IndexOutOfBoundsException" ["java/lang/RuntimeException", "java/lang/Exception"]).filter goodWord)
def wsL_visitor : List Cond := .codeWith yL_visitor cL_visitor 3 (some .int) [(0, 8, 11, 13)] :: ([.classLink RL 13 "java/lang/IllegalStateException", .methodLink RL 82 yX7_visitor, .instanceMethod yX7_visitor, .selects RX7 yX7_visitor yX7_visitor, .initialized RX7, .code yX7_visitor cX7_visitor 1 (some .int), .classLink RX7 48 "java/lang/IllegalStateException", .initialized "java/lang/IllegalStateException", .fieldLink RX7 208 "KioskReel" "visitorCount" "I"] ++ wsX70 ++ (vx_atM "java/lang/ArrayIndexOutOfBoundsException" ["java/lang/IndexOutOfBoundsException", "java/lang/RuntimeException", "java/lang/Exception"]).filter goodWord ++ (vx_atS RX7 52 "java/lang/IllegalStateException" ["java/lang/RuntimeException", "java/lang/Exception"]).filter goodWord)
def wsL_go : List Cond := .codeWith yL_go cL_go 5 (some .int) [(0, 10, 13, 19)] :: ([.classLink RL 19 "java/lang/IndexOutOfBoundsException", .methodLink RL 85 yX7_go, .instanceMethod yX7_go, .selects RX7 yX7_go yX7_go, .initialized RX7, .code yX7_go cX7_go 4 (some .int), .fieldLink RX7 35 "KioskReel" "visitors" "[LKioskReel$Visitor;", .fieldLink RX7 216 "KioskReel$Visitor" "place" "I", .methodLink RX7 213 yX7_checkVisitor, .instanceMethod yX7_checkVisitor, .selects RX7 yX7_checkVisitor yX7_checkVisitor, .code yX7_checkVisitor cX7_checkVisitor 2 none, .classLink RX7 62 "java/lang/IndexOutOfBoundsException", .initialized "java/lang/IndexOutOfBoundsException", .fieldLink RX7 208 "KioskReel" "visitorCount" "I", .methodLink RX7 104 yX7_checkKiosk, .instanceMethod yX7_checkKiosk, .selects RX7 yX7_checkKiosk yX7_checkKiosk, .code yX7_checkKiosk cX7_checkKiosk 2 none, .fieldLink RX7 99 "KioskReel" "kioskCount" "I"] ++ wsX70 ++ wsX60 ++ (vx_atM "java/lang/ArrayIndexOutOfBoundsException" ["java/lang/IndexOutOfBoundsException", "java/lang/RuntimeException", "java/lang/Exception"]).filter goodWord ++ (vx_atS RX7 66 "java/lang/IndexOutOfBoundsException" ["java/lang/RuntimeException", "java/lang/Exception"]).filter goodWord)
def wsL_ask : List Cond := .codeWith yL_ask cL_ask 5 (some .int) [(0, 17, 20, 19), (0, 17, 24, 21)] :: ([.classLink RL 19 "java/lang/IndexOutOfBoundsException", .classLink RL 21 "java/lang/IllegalArgumentException", .methodLink RL 88 yX7_ask, .instanceMethod yX7_ask, .selects RX7 yX7_ask yX7_ask, .initialized RX7, .code yX7_ask cX7_ask 4 (some .boolean), .fieldLink RX7 35 "KioskReel" "visitors" "[LKioskReel$Visitor;", .fieldLink RX7 220 "KioskReel$Visitor" "wants" "[Z", .fieldLink RX7 224 "KioskReel$Visitor" "timesAsked" "[I", .fieldLink RX7 227 "KioskReel$Visitor" "timesSeen" "[I", .methodLink RX7 213 yX7_checkVisitor, .instanceMethod yX7_checkVisitor, .selects RX7 yX7_checkVisitor yX7_checkVisitor, .code yX7_checkVisitor cX7_checkVisitor 2 none, .classLink RX7 62 "java/lang/IndexOutOfBoundsException", .initialized "java/lang/IndexOutOfBoundsException", .fieldLink RX7 208 "KioskReel" "visitorCount" "I", .methodLink RX7 217 yX7_checkSlide, .static yX7_checkSlide, .code yX7_checkSlide cX7_checkSlide 1 none, .classLink RX7 78 "java/lang/IllegalArgumentException", .initialized "java/lang/IllegalArgumentException"] ++ wsX70 ++ wsX60 ++ (vx_atM "java/lang/ArrayIndexOutOfBoundsException" ["java/lang/IndexOutOfBoundsException", "java/lang/RuntimeException", "java/lang/Exception"]).filter goodWord ++ (vx_atS RX7 66 "java/lang/IndexOutOfBoundsException" ["java/lang/RuntimeException", "java/lang/Exception"]).filter goodWord ++ (vx_atS RX7 82 "java/lang/IllegalArgumentException" ["java/lang/RuntimeException", "java/lang/Exception"]).filter goodWord)
def wsL_saw : List Cond := .codeWith yL_saw cL_saw 5 (some .int) [(0, 10, 13, 19), (0, 10, 17, 21)] :: ([.classLink RL 19 "java/lang/IndexOutOfBoundsException", .classLink RL 21 "java/lang/IllegalArgumentException", .methodLink RL 92 yX7_saw, .instanceMethod yX7_saw, .selects RX7 yX7_saw yX7_saw, .initialized RX7, .code yX7_saw cX7_saw 3 (some .int), .fieldLink RX7 35 "KioskReel" "visitors" "[LKioskReel$Visitor;", .fieldLink RX7 227 "KioskReel$Visitor" "timesSeen" "[I", .methodLink RX7 213 yX7_checkVisitor, .instanceMethod yX7_checkVisitor, .selects RX7 yX7_checkVisitor yX7_checkVisitor, .code yX7_checkVisitor cX7_checkVisitor 2 none, .classLink RX7 62 "java/lang/IndexOutOfBoundsException", .initialized "java/lang/IndexOutOfBoundsException", .fieldLink RX7 208 "KioskReel" "visitorCount" "I", .methodLink RX7 217 yX7_checkSlide, .static yX7_checkSlide, .code yX7_checkSlide cX7_checkSlide 1 none, .classLink RX7 78 "java/lang/IllegalArgumentException", .initialized "java/lang/IllegalArgumentException"] ++ wsX70 ++ wsX60 ++ (vx_atM "java/lang/ArrayIndexOutOfBoundsException" ["java/lang/IndexOutOfBoundsException", "java/lang/RuntimeException", "java/lang/Exception"]).filter goodWord ++ (vx_atS RX7 66 "java/lang/IndexOutOfBoundsException" ["java/lang/RuntimeException", "java/lang/Exception"]).filter goodWord ++ (vx_atS RX7 82 "java/lang/IllegalArgumentException" ["java/lang/RuntimeException", "java/lang/Exception"]).filter goodWord)
def wsL_meanSeen : List Cond := .codeWith yL_meanSeen cL_meanSeen 3 (some .int) [(0, 7, 10, 99)] :: ([.classLink RL 99 "java/lang/ArithmeticException", .methodLink RL 95 yX7_meanSeen, .instanceMethod yX7_meanSeen, .selects RX7 yX7_meanSeen yX7_meanSeen, .initialized RX7, .code yX7_meanSeen cX7_meanSeen 5 (some .double), .classLink RX7 243 "java/lang/ArithmeticException", .initialized "java/lang/ArithmeticException", .fieldLink RX7 208 "KioskReel" "visitorCount" "I", .fieldLink RX7 35 "KioskReel" "visitors" "[LKioskReel$Visitor;", .fieldLink RX7 227 "KioskReel$Visitor" "timesSeen" "[I"] ++ wsX70 ++ wsX60 ++ (vx_atM "java/lang/ArrayIndexOutOfBoundsException" ["java/lang/IndexOutOfBoundsException", "java/lang/RuntimeException", "java/lang/Exception"]).filter goodWord ++ (vx_atS RX7 247 "java/lang/ArithmeticException" ["java/lang/RuntimeException", "java/lang/Exception"]).filter goodWord)
def wsL_law0_r1 : List Cond := [Cond.classLink RL 8 RX7, Cond.instantiable RX7 9, Cond.initialized RX7, Cond.classLink RL 102 RX8, Cond.instantiable RX8 32, Cond.initialized RX8, Cond.arrayClass .long, Cond.arrayClass .double, Cond.methodLink RL 101 yX7_init, Cond.instanceMethod yX7_init, Cond.code yX7_init cX7_init 2 none, Cond.methodLink RX7 1 objectInit, Cond.instanceMethod objectInit, Cond.code objectInit ⟨#[0xb1]⟩ 1 none, Cond.classLink RX7 9 RX5, Cond.fieldLink RX7 11 "KioskReel" "reels" "[LKioskReel$Reel;", Cond.classLink RX7 15 RX1, Cond.fieldLink RX7 17 "KioskReel" "kiosks" "[LKioskReel$Kiosk;", Cond.classLink RX7 21 RX3, Cond.fieldLink RX7 23 "KioskReel" "players" "[LKioskReel$Player;", Cond.classLink RX7 27 RX0, Cond.fieldLink RX7 29 "KioskReel" "devices" "[LKioskReel$Device;", Cond.classLink RX7 33 RX6, Cond.fieldLink RX7 35 "KioskReel" "visitors" "[LKioskReel$Visitor;"]
def wsL_law0_r2 : List Cond := [Cond.instantiable RX5 3, Cond.initialized RX5, Cond.instantiable RX1 5, Cond.initialized RX1, Cond.instantiable RX3 9, Cond.initialized RX3, Cond.instantiable RX0 2, Cond.initialized RX0, Cond.instantiable RX6 4, Cond.initialized RX6, Cond.instanceMethod yX5_init, Cond.code yX5_init cX5_init 1 none, Cond.methodLink RX5 3 objectInit, Cond.arrayClass .char, Cond.fieldLink RX5 9 "KioskReel$Reel" "kinds" "[C", Cond.arrayClass .int, Cond.fieldLink RX5 15 "KioskReel$Reel" "numbers" "[I", Cond.instanceMethod yX1_init, Cond.code yX1_init cX1_init 1 none, Cond.methodLink RX1 3 objectInit, Cond.classLink RX1 9 RX4, Cond.instantiable RX4 2, Cond.initialized RX4, Cond.fieldLink RX1 12 "KioskReel$Kiosk" "playing" "LKioskReel$PlayerRow;"]
def wsL_law0_r3 : List Cond := [Cond.fieldLink RX1 18 "KioskReel$Kiosk" "lastSlide" "I", Cond.instanceMethod yX4_init, Cond.code yX4_init cX4_init 1 none, Cond.methodLink RX4 3 objectInit, Cond.fieldLink RX4 9 "KioskReel$PlayerRow" "members" "[I", Cond.methodLink RX7 41 yX3_init, Cond.instanceMethod yX3_init, Cond.code yX3_init cX3_init 2 none, Cond.methodLink RX3 3 objectInit, Cond.classLink RX3 9 RX5, Cond.fieldLink RX3 11 "KioskReel$Player" "pile" "[LKioskReel$Reel;", Cond.fieldLink RX3 17 "KioskReel$Player" "ahead" "[I", Cond.fieldLink RX3 21 "KioskReel$Player" "height" "I", Cond.fieldLink RX3 25 "KioskReel$Player" "place" "I", Cond.fieldLink RX3 28 "KioskReel$Player" "awaitedDevice" "I", Cond.instanceMethod yX0_init, Cond.code yX0_init cX0_init 1 none, Cond.methodLink RX0 3 objectInit, Cond.classLink RX0 9 RX4, Cond.fieldLink RX0 12 "KioskReel$Device" "queue" "LKioskReel$PlayerRow;", Cond.fieldLink RX0 18 "KioskReel$Device" "owner" "I", Cond.instanceMethod yX6_init, Cond.code yX6_init cX6_init 1 none, Cond.methodLink RX6 3 objectInit]
def wsL_law0_r4 : List Cond := [Cond.fieldLink RX6 9 "KioskReel$Visitor" "timesSeen" "[I", Cond.fieldLink RX6 15 "KioskReel$Visitor" "timesAsked" "[I", Cond.arrayClass .boolean, Cond.fieldLink RX6 18 "KioskReel$Visitor" "wants" "[Z", Cond.fieldLink RX6 22 "KioskReel$Visitor" "place" "I", Cond.methodLink RL 104 yX8_init, Cond.instanceMethod yX8_init, Cond.code yX8_init cX8_init 2 none, Cond.methodLink RX8 1 objectInit, Cond.fieldLink RX8 7 "KioskReelModel" "many" "[I", Cond.fieldLink RX8 13 "KioskReelModel" "kind" "[I", Cond.fieldLink RX8 16 "KioskReelModel" "number" "[I", Cond.fieldLink RX8 19 "KioskReelModel" "pileMany" "[I", Cond.fieldLink RX8 22 "KioskReelModel" "pileKind" "[I", Cond.fieldLink RX8 25 "KioskReelModel" "pileNumber" "[I", Cond.fieldLink RX8 28 "KioskReelModel" "pileList" "[I", Cond.fieldLink RX8 31 "KioskReelModel" "pileNext" "[I", Cond.fieldLink RX8 34 "KioskReelModel" "hasPlayer" "[Z", Cond.fieldLink RX8 38 "KioskReelModel" "isFrozen" "[Z", Cond.fieldLink RX8 41 "KioskReelModel" "isOut" "[Z", Cond.fieldLink RX8 44 "KioskReelModel" "depth" "[I", Cond.fieldLink RX8 47 "KioskReelModel" "at" "[I", Cond.fieldLink RX8 50 "KioskReelModel" "counts" "[I", Cond.fieldLink RX8 53 "KioskReelModel" "ticks" "[I"]
def wsL_law0_r5 : List Cond := [Cond.fieldLink RX8 56 "KioskReelModel" "wanted" "[I", Cond.fieldLink RX8 59 "KioskReelModel" "frozenFor" "[I", Cond.fieldLink RX8 62 "KioskReelModel" "slide" "[I", Cond.fieldLink RX8 65 "KioskReelModel" "playing" "[I", Cond.fieldLink RX8 68 "KioskReelModel" "playingMany" "[I", Cond.fieldLink RX8 71 "KioskReelModel" "holder" "[I", Cond.fieldLink RX8 74 "KioskReelModel" "queue" "[I", Cond.fieldLink RX8 77 "KioskReelModel" "queueMany" "[I", Cond.fieldLink RX8 80 "KioskReelModel" "saw" "[I", Cond.fieldLink RX8 83 "KioskReelModel" "place" "[I", Cond.fieldLink RX8 86 "KioskReelModel" "asked" "[Z", Cond.methodLink RL 105 yL_list, Cond.static yL_list, Cond.initialized RL, Cond.codeWith yL_list cL_list 3 (some .int) [(0, 8, 11, 13)], Cond.classLink RL 13 "java/lang/IllegalStateException", Cond.methodLink RL 7 yX7_list, Cond.instanceMethod yX7_list, Cond.selects RX7 yX7_list yX7_list, Cond.code yX7_list cX7_list 1 (some .int), Cond.classLink RX7 48 "java/lang/IllegalStateException", Cond.initialized "java/lang/IllegalStateException", Cond.fieldLink RX7 44 "KioskReel" "reelCount" "I", Cond.methodLink RL 110 yX8_list]
def wsL_law0_r6 : List Cond := [Cond.instanceMethod yX8_list, Cond.selects RX8 yX8_list yX8_list, Cond.code yX8_list cX8_list 1 (some .int), Cond.fieldLink RX8 93 "KioskReelModel" "lists" "I", Cond.methodLink RX8 103 yX8_isThrown, Cond.instanceMethod yX8_isThrown, Cond.selects RX8 yX8_isThrown yX8_isThrown, Cond.code yX8_isThrown cX8_isThrown 3 (some .boolean), Cond.fieldLink RX8 89 "KioskReelModel" "thrown" "I", Cond.methodLink RL 111 yX8_thrown, Cond.instanceMethod yX8_thrown, Cond.selects RX8 yX8_thrown yX8_thrown, Cond.code yX8_thrown cX8_thrown 1 (some .int), Cond.methodLink RL 114 yL_line, Cond.static yL_line, Cond.codeWith yL_line cL_line 7 (some .int) [(0, 14, 17, 19), (0, 14, 21, 21), (0, 14, 25, 13)], Cond.classLink RL 19 "java/lang/IndexOutOfBoundsException", Cond.classLink RL 21 "java/lang/IllegalArgumentException", Cond.methodLink RL 15 yX7_line, Cond.instanceMethod yX7_line, Cond.selects RX7 yX7_line yX7_line, Cond.code yX7_line cX7_line 6 (some .int), Cond.classLink RX7 62 "java/lang/IndexOutOfBoundsException", Cond.initialized "java/lang/IndexOutOfBoundsException"]
def wsL_law0_r7 : List Cond := [Cond.classLink RX7 78 "java/lang/IllegalArgumentException", Cond.initialized "java/lang/IllegalArgumentException", Cond.fieldLink RX7 59 "KioskReel$Reel" "size" "I", Cond.methodLink RX7 55 yX7_checkList, Cond.instanceMethod yX7_checkList, Cond.selects RX7 yX7_checkList yX7_checkList, Cond.code yX7_checkList cX7_checkList 2 none, Cond.methodLink RX7 67 yX7_checkKind, Cond.static yX7_checkKind, Cond.code yX7_checkKind cX7_checkKind 1 none, Cond.methodLink RX7 75 yX7_mostNumber, Cond.static yX7_mostNumber, Cond.code yX7_mostNumber cX7_mostNumber 1 (some .int), Cond.methodLink RX7 71 yX7_leastNumber, Cond.static yX7_leastNumber, Cond.code yX7_leastNumber cX7_leastNumber 1 (some .int), Cond.methodLink RX7 85 yX5_insertAt, Cond.instanceMethod yX5_insertAt, Cond.selects RX5 yX5_insertAt yX5_insertAt, Cond.code yX5_insertAt cX5_insertAt 5 none, Cond.fieldLink RX5 19 "KioskReel$Reel" "size" "I", Cond.methodLink RL 117 yX8_line, Cond.instanceMethod yX8_line, Cond.selects RX8 yX8_line yX8_line]
def wsL_law0_r8 : List Cond := [Cond.code yX8_line cX8_line 6 (some .int), Cond.methodLink RX8 107 yX8_isList, Cond.instanceMethod yX8_isList, Cond.selects RX8 yX8_isList yX8_isList, Cond.code yX8_isList cX8_isList 2 (some .boolean), Cond.methodLink RX8 96 yX8_isIn, Cond.static yX8_isIn, Cond.code yX8_isIn cX8_isIn 3 (some .boolean), Cond.methodLink RX8 111 yX8_isKind, Cond.static yX8_isKind, Cond.code yX8_isKind cX8_isKind 1 (some .boolean), Cond.methodLink RX8 115 yX8_isNumber, Cond.static yX8_isNumber, Cond.code yX8_isNumber cX8_isNumber 4 (some .boolean), Cond.methodLink RL 118 yL_cut, Cond.static yL_cut, Cond.codeWith yL_cut cL_cut 5 (some .int) [(0, 10, 13, 19)], Cond.methodLink RL 23 yX7_cut, Cond.instanceMethod yX7_cut, Cond.selects RX7 yX7_cut yX7_cut, Cond.code yX7_cut cX7_cut 5 (some .char), Cond.fieldLink RX7 89 "KioskReel$Reel" "kinds" "[C", Cond.methodLink RX7 93 yX5_removeAt, Cond.instanceMethod yX5_removeAt]
def wsL_law0_r9 : List Cond := [Cond.selects RX5 yX5_removeAt yX5_removeAt, Cond.code yX5_removeAt cX5_removeAt 3 none, Cond.methodLink RL 121 yX8_cut, Cond.instanceMethod yX8_cut, Cond.selects RX8 yX8_cut yX8_cut, Cond.code yX8_cut cX8_cut 5 (some .char), Cond.methodLink RL 122 yL_lines, Cond.static yL_lines, Cond.codeWith yL_lines cL_lines 5 (some .int) [(0, 10, 13, 19), (0, 10, 17, 21)], Cond.methodLink RL 27 yX7_lines, Cond.instanceMethod yX7_lines, Cond.selects RX7 yX7_lines yX7_lines, Cond.code yX7_lines cX7_lines 3 (some .int), Cond.methodLink RX7 96 yX5_linesOf, Cond.instanceMethod yX5_linesOf, Cond.selects RX5 yX5_linesOf yX5_linesOf, Cond.code yX5_linesOf cX5_linesOf 4 (some .int), Cond.methodLink RL 125 yX8_lines, Cond.instanceMethod yX8_lines, Cond.selects RX8 yX8_lines yX8_lines, Cond.code yX8_lines cX8_lines 5 (some .int), Cond.methodLink RL 126 yL_kiosk, Cond.static yL_kiosk, Cond.codeWith yL_kiosk cL_kiosk 3 (some .int) [(0, 8, 11, 13)]]
def wsL_law0_r10 : List Cond := [Cond.methodLink RL 31 yX7_kiosk, Cond.instanceMethod yX7_kiosk, Cond.selects RX7 yX7_kiosk yX7_kiosk, Cond.code yX7_kiosk cX7_kiosk 1 (some .int), Cond.fieldLink RX7 99 "KioskReel" "kioskCount" "I", Cond.methodLink RL 128 yX8_kiosk, Cond.instanceMethod yX8_kiosk, Cond.selects RX8 yX8_kiosk yX8_kiosk, Cond.code yX8_kiosk cX8_kiosk 1 (some .int), Cond.fieldLink RX8 100 "KioskReelModel" "kiosks" "I", Cond.methodLink RL 129 yL_start, Cond.static yL_start, Cond.codeWith yL_start cL_start 5 (some .int) [(0, 10, 13, 19), (0, 10, 17, 13)], Cond.methodLink RL 34 yX7_start, Cond.instanceMethod yX7_start, Cond.selects RX7 yX7_start yX7_start, Cond.code yX7_start cX7_start 4 (some .int), Cond.fieldLink RX7 107 "KioskReel$Player" "started" "Z", Cond.fieldLink RX7 125 "KioskReel$Player" "place" "I", Cond.methodLink RX7 104 yX7_checkKiosk, Cond.instanceMethod yX7_checkKiosk, Cond.selects RX7 yX7_checkKiosk yX7_checkKiosk, Cond.code yX7_checkKiosk cX7_checkKiosk 2 none, Cond.methodLink RX7 113 yX3_begin]
def wsL_law0_r11 : List Cond := [Cond.instanceMethod yX3_begin, Cond.selects RX3 yX3_begin yX3_begin, Cond.code yX3_begin cX3_begin 3 none, Cond.fieldLink RX3 32 "KioskReel$Player" "started" "Z", Cond.fieldLink RX3 36 "KioskReel$Player" "firstList" "I", Cond.fieldLink RX3 39 "KioskReel$Player" "counter" "I", Cond.fieldLink RX3 42 "KioskReel$Player" "ticksToWait" "I", Cond.methodLink RX3 45 yX3_beginPile, Cond.instanceMethod yX3_beginPile, Cond.selects RX3 yX3_beginPile yX3_beginPile, Cond.code yX3_beginPile cX3_beginPile 2 none, Cond.methodLink RX3 49 yX3_putOnPile, Cond.instanceMethod yX3_putOnPile, Cond.selects RX3 yX3_putOnPile yX3_putOnPile, Cond.code yX3_putOnPile cX3_putOnPile 2 none, Cond.methodLink RX3 52 yX5_copyFrom, Cond.instanceMethod yX5_copyFrom, Cond.selects RX5 yX5_copyFrom yX5_copyFrom, Cond.code yX5_copyFrom cX5_copyFrom 3 none, Cond.methodLink RX7 117 yX7_nearestNotOut, Cond.instanceMethod yX7_nearestNotOut, Cond.selects RX7 yX7_nearestNotOut yX7_nearestNotOut, Cond.code yX7_nearestNotOut cX7_nearestNotOut 3 (some .int), Cond.methodLink RX7 352 yX7_isNotOut]
def wsL_law0_r12 : List Cond := [Cond.instanceMethod yX7_isNotOut, Cond.selects RX7 yX7_isNotOut yX7_isNotOut, Cond.code yX7_isNotOut cX7_isNotOut 2 (some .boolean), Cond.fieldLink RX7 152 "KioskReel$Kiosk" "out" "Z", Cond.methodLink RX7 121 yX7_settle, Cond.instanceMethod yX7_settle, Cond.selects RX7 yX7_settle yX7_settle, Cond.code yX7_settle cX7_settle 3 none, Cond.fieldLink RX7 161 "KioskReel$Kiosk" "playing" "LKioskReel$PlayerRow;", Cond.methodLink RX7 146 yX7_leave, Cond.instanceMethod yX7_leave, Cond.selects RX7 yX7_leave yX7_leave, Cond.code yX7_leave cX7_leave 3 none, Cond.methodLink RX7 141 yX4_remove, Cond.instanceMethod yX4_remove, Cond.selects RX4 yX4_remove yX4_remove, Cond.code yX4_remove cX4_remove 4 none, Cond.fieldLink RX4 15 "KioskReel$PlayerRow" "size" "I", Cond.methodLink RX7 355 yX4_addFirst, Cond.instanceMethod yX4_addFirst, Cond.selects RX4 yX4_addFirst yX4_addFirst, Cond.code yX4_addFirst cX4_addFirst 3 none, Cond.methodLink RX7 346 yX4_addLast, Cond.instanceMethod yX4_addLast]
def wsL_law0_r13 : List Cond := [Cond.selects RX4 yX4_addLast yX4_addLast, Cond.code yX4_addLast cX4_addLast 2 none, Cond.methodLink RL 131 yX8_start, Cond.instanceMethod yX8_start, Cond.selects RX8 yX8_start yX8_start, Cond.code yX8_start cX8_start 3 (some .int), Cond.methodLink RX8 123 yX8_isKiosk, Cond.instanceMethod yX8_isKiosk, Cond.selects RX8 yX8_isKiosk yX8_isKiosk, Cond.code yX8_isKiosk cX8_isKiosk 2 (some .boolean), Cond.methodLink RX8 126 yX8_copies, Cond.instanceMethod yX8_copies, Cond.selects RX8 yX8_copies yX8_copies, Cond.code yX8_copies cX8_copies 4 none, Cond.methodLink RX8 130 yX8_nearest, Cond.instanceMethod yX8_nearest, Cond.selects RX8 yX8_nearest yX8_nearest, Cond.code yX8_nearest cX8_nearest 4 (some .int), Cond.methodLink RX8 119 yX8_apart, Cond.static yX8_apart, Cond.code yX8_apart cX8_apart 2 (some .int), Cond.methodLink RX8 134 yX8_comesTo, Cond.instanceMethod yX8_comesTo, Cond.selects RX8 yX8_comesTo yX8_comesTo]
def wsL_law0_r14 : List Cond := [Cond.code yX8_comesTo cX8_comesTo 4 none, Cond.methodLink RL 132 yL_stop, Cond.static yL_stop, Cond.codeWith yL_stop cL_stop 4 (some .int) [(0, 9, 12, 19), (0, 9, 15, 42)], Cond.classLink RL 42 "java/util/NoSuchElementException", Cond.methodLink RL 38 yX7_stop, Cond.instanceMethod yX7_stop, Cond.selects RX7 yX7_stop yX7_stop, Cond.code yX7_stop cX7_stop 4 (some .int), Cond.fieldLink RX7 131 "KioskReel$Device" "owner" "I", Cond.fieldLink RX7 137 "KioskReel$Device" "queue" "LKioskReel$PlayerRow;", Cond.methodLink RX7 128 yX7_checkPlayer, Cond.instanceMethod yX7_checkPlayer, Cond.selects RX7 yX7_checkPlayer yX7_checkPlayer, Cond.code yX7_checkPlayer cX7_checkPlayer 2 none, Cond.classLink RX7 165 "java/util/NoSuchElementException", Cond.initialized "java/util/NoSuchElementException", Cond.methodLink RX7 134 yX7_passOn, Cond.instanceMethod yX7_passOn, Cond.selects RX7 yX7_passOn yX7_passOn, Cond.code yX7_passOn cX7_passOn 3 none, Cond.fieldLink RX7 164 "KioskReel$PlayerRow" "size" "I", Cond.fieldLink RX7 170 "KioskReel$PlayerRow" "members" "[I", Cond.fieldLink RX7 184 "KioskReel$Player" "awaitedDevice" "I"]
def wsL_law0_r15 : List Cond := [Cond.methodLink RL 135 yX8_stop, Cond.instanceMethod yX8_stop, Cond.selects RX8 yX8_stop yX8_stop, Cond.code yX8_stop cX8_stop 6 (some .int), Cond.methodLink RX8 140 yX8_isNone, Cond.instanceMethod yX8_isNone, Cond.selects RX8 yX8_isNone yX8_isNone, Cond.code yX8_isNone cX8_isNone 2 (some .boolean), Cond.methodLink RX8 143 yX8_held, Cond.instanceMethod yX8_held, Cond.selects RX8 yX8_held yX8_held, Cond.code yX8_held cX8_held 4 (some .int), Cond.methodLink RX8 137 yX8_outOf, Cond.instanceMethod yX8_outOf, Cond.selects RX8 yX8_outOf yX8_outOf, Cond.code yX8_outOf cX8_outOf 6 (some .int), Cond.methodLink RX8 146 yX8_frees, Cond.instanceMethod yX8_frees, Cond.selects RX8 yX8_frees yX8_frees, Cond.code yX8_frees cX8_frees 2 none, Cond.methodLink RX8 150 yX8_leaves, Cond.instanceMethod yX8_leaves, Cond.selects RX8 yX8_leaves yX8_leaves, Cond.code yX8_leaves cX8_leaves 4 none]
def wsL_law0_r16 : List Cond := [Cond.methodLink RL 136 yL_freeze, Cond.static yL_freeze, Cond.codeWith yL_freeze cL_freeze 4 (some .int) [(0, 16, 19, 19)], Cond.methodLink RL 44 yX7_freeze, Cond.instanceMethod yX7_freeze, Cond.selects RX7 yX7_freeze yX7_freeze, Cond.code yX7_freeze cX7_freeze 3 (some .boolean), Cond.fieldLink RX7 149 "KioskReel$Kiosk" "frozen" "Z", Cond.methodLink RL 138 yX8_freeze, Cond.instanceMethod yX8_freeze, Cond.selects RX8 yX8_freeze yX8_freeze, Cond.code yX8_freeze cX8_freeze 3 (some .boolean), Cond.methodLink RL 139 yL_thaw, Cond.static yL_thaw, Cond.codeWith yL_thaw cL_thaw 4 (some .int) [(0, 9, 12, 19)], Cond.methodLink RL 48 yX7_thaw, Cond.instanceMethod yX7_thaw, Cond.selects RX7 yX7_thaw yX7_thaw, Cond.code yX7_thaw cX7_thaw 4 (some .int), Cond.fieldLink RX7 155 "KioskReel$Kiosk" "frozenTicks" "I", Cond.methodLink RX7 158 yX7_gather, Cond.instanceMethod yX7_gather, Cond.selects RX7 yX7_gather yX7_gather, Cond.code yX7_gather cX7_gather 4 (some .int)]
def wsL_law0_r17 : List Cond := [Cond.methodLink RL 141 yX8_thaw, Cond.instanceMethod yX8_thaw, Cond.selects RX8 yX8_thaw yX8_thaw, Cond.code yX8_thaw cX8_thaw 5 (some .int), Cond.methodLink RL 142 yL_state, Cond.static yL_state, Cond.codeWith yL_state cL_state 4 (some .int) [(0, 9, 12, 19)], Cond.methodLink RL 51 yX7_state, Cond.instanceMethod yX7_state, Cond.selects RX7 yX7_state yX7_state, Cond.code yX7_state cX7_state 2 (some .char), Cond.methodLink RL 144 yX8_state, Cond.instanceMethod yX8_state, Cond.selects RX8 yX8_state yX8_state, Cond.code yX8_state cX8_state 2 (some .char), Cond.methodLink RL 145 yL_plays, Cond.static yL_plays, Cond.codeWith yL_plays cL_plays 4 (some .int) [(0, 9, 12, 19), (0, 9, 15, 42)], Cond.methodLink RL 55 yX7_plays, Cond.instanceMethod yX7_plays, Cond.selects RX7 yX7_plays yX7_plays, Cond.code yX7_plays cX7_plays 2 (some .int), Cond.methodLink RL 147 yX8_plays, Cond.instanceMethod yX8_plays]
def wsL_law0_r18 : List Cond := [Cond.selects RX8 yX8_plays yX8_plays, Cond.code yX8_plays cX8_plays 2 (some .int), Cond.methodLink RL 148 yL_playerAt, Cond.static yL_playerAt, Cond.codeWith yL_playerAt cL_playerAt 5 (some .int) [(0, 10, 13, 19), (0, 10, 17, 42)], Cond.methodLink RL 58 yX7_playerAt, Cond.instanceMethod yX7_playerAt, Cond.selects RX7 yX7_playerAt yX7_playerAt, Cond.code yX7_playerAt cX7_playerAt 4 (some .int), Cond.methodLink RL 150 yX8_playerAt, Cond.instanceMethod yX8_playerAt, Cond.selects RX8 yX8_playerAt yX8_playerAt, Cond.code yX8_playerAt cX8_playerAt 3 (some .int), Cond.methodLink RL 151 yL_next, Cond.static yL_next, Cond.codeWith yL_next cL_next 4 (some .int) [(0, 9, 12, 19), (0, 9, 15, 42)], Cond.methodLink RL 61 yX7_next, Cond.instanceMethod yX7_next, Cond.selects RX7 yX7_next yX7_next, Cond.code yX7_next cX7_next 3 (some .int), Cond.fieldLink RX7 174 "KioskReel$Player" "height" "I", Cond.methodLink RX7 177 yX3_lineAhead, Cond.instanceMethod yX3_lineAhead, Cond.selects RX3 yX3_lineAhead yX3_lineAhead]
def wsL_law0_r19 : List Cond := [Cond.code yX3_lineAhead cX3_lineAhead 1 (some .int), Cond.methodLink RL 153 yX8_next, Cond.instanceMethod yX8_next, Cond.selects RX8 yX8_next yX8_next, Cond.code yX8_next cX8_next 2 (some .int), Cond.methodLink RX8 153 yX8_top, Cond.instanceMethod yX8_top, Cond.selects RX8 yX8_top yX8_top, Cond.code yX8_top cX8_top 2 (some .int), Cond.methodLink RL 154 yL_count, Cond.static yL_count, Cond.codeWith yL_count cL_count 4 (some .int) [(0, 9, 12, 19), (0, 9, 15, 42)], Cond.methodLink RL 64 yX7_count, Cond.instanceMethod yX7_count, Cond.selects RX7 yX7_count yX7_count, Cond.code yX7_count cX7_count 2 (some .int), Cond.fieldLink RX7 181 "KioskReel$Player" "counter" "I", Cond.methodLink RL 156 yX8_count, Cond.instanceMethod yX8_count, Cond.selects RX8 yX8_count yX8_count, Cond.code yX8_count cX8_count 2 (some .int), Cond.methodLink RL 157 yL_waits, Cond.static yL_waits, Cond.codeWith yL_waits cL_waits 4 (some .int) [(0, 9, 12, 19), (0, 9, 15, 42)]]
def wsL_law0_r20 : List Cond := [Cond.methodLink RL 67 yX7_waits, Cond.instanceMethod yX7_waits, Cond.selects RX7 yX7_waits yX7_waits, Cond.code yX7_waits cX7_waits 3 (some .int), Cond.fieldLink RX7 187 "KioskReel$Player" "ticksToWait" "I", Cond.methodLink RL 159 yX8_waits, Cond.instanceMethod yX8_waits, Cond.selects RX8 yX8_waits yX8_waits, Cond.code yX8_waits cX8_waits 2 (some .int), Cond.methodLink RL 160 yL_tick, Cond.static yL_tick, Cond.codeWith yL_tick cL_tick 4 (some .int) [(0, 9, 12, 21)], Cond.methodLink RL 70 yX7_tick, Cond.instanceMethod yX7_tick, Cond.selects RX7 yX7_tick yX7_tick, Cond.code yX7_tick cX7_tick 4 (some .int), Cond.methodLink RX7 192 yX7_playOneTick, Cond.instanceMethod yX7_playOneTick, Cond.selects RX7 yX7_playOneTick yX7_playOneTick, Cond.code yX7_playOneTick cX7_playOneTick 5 (some .int), Cond.methodLink RX7 272 yX7_takeTurn, Cond.instanceMethod yX7_takeTurn, Cond.selects RX7 yX7_takeTurn yX7_takeTurn, Cond.code yX7_takeTurn cX7_takeTurn 5 (some .int)]
def wsL_law0_r21 : List Cond := [Cond.fieldLink RX7 276 "KioskReel$Outcome" "GOES_ON" "LKioskReel$Outcome;", Cond.fieldLink RX7 286 "KioskReel$Outcome" "SHOWN" "LKioskReel$Outcome;", Cond.methodLink RX7 282 yX7_doLine, Cond.instanceMethod yX7_doLine, Cond.selects RX7 yX7_doLine yX7_doLine, Cond.code yX7_doLine cX7_doLine 5 (some (.object "KioskReel$Outcome")), Cond.fieldLink RX7 230 "KioskReel" "linesDone" "J", Cond.fieldLink RX7 295 "KioskReel$Player" "firstList" "I", Cond.fieldLink RX7 302 "KioskReel$Player" "pile" "[LKioskReel$Reel;", Cond.fieldLink RX7 308 "KioskReel$Reel" "numbers" "[I", Cond.methodLink RX7 289 yX3_takeEndedFromPile, Cond.instanceMethod yX3_takeEndedFromPile, Cond.selects RX3 yX3_takeEndedFromPile yX3_takeEndedFromPile, Cond.code yX3_takeEndedFromPile cX3_takeEndedFromPile 1 none, Cond.methodLink RX3 55 yX3_isAtEnd, Cond.instanceMethod yX3_isAtEnd, Cond.selects RX3 yX3_isAtEnd yX3_isAtEnd, Cond.code yX3_isAtEnd cX3_isAtEnd 1 (some .boolean), Cond.fieldLink RX3 63 "KioskReel$Reel" "size" "I", Cond.methodLink RX3 59 yX3_lineAhead, Cond.methodLink RX7 292 yX3_isAtEnd, Cond.methodLink RX7 298 yX3_beginPile, Cond.methodLink RX7 305 yX3_goOnAt, Cond.instanceMethod yX3_goOnAt]
def wsL_law0_r22 : List Cond := [Cond.selects RX3 yX3_goOnAt yX3_goOnAt, Cond.code yX3_goOnAt cX3_goOnAt 2 none, Cond.methodLink RX7 311 yX7_obey, Cond.instanceMethod yX7_obey, Cond.selects RX7 yX7_obey yX7_obey, Cond.code yX7_obey cX7_obey 5 (some (.object "KioskReel$Outcome")), Cond.fieldLink RX7 319 "KioskReel$Outcome" "ENDS_TURN" "LKioskReel$Outcome;", Cond.methodLink RX7 315 yX7_show, Cond.instanceMethod yX7_show, Cond.selects RX7 yX7_show yX7_show, Cond.code yX7_show cX7_show 6 (some (.object "KioskReel$Outcome")), Cond.fieldLink RX7 208 "KioskReel" "visitorCount" "I", Cond.fieldLink RX7 216 "KioskReel$Visitor" "place" "I", Cond.fieldLink RX7 198 "KioskReel$Kiosk" "lastSlide" "I", Cond.methodLink RX7 337 yX6_wouldSee, Cond.instanceMethod yX6_wouldSee, Cond.selects RX6 yX6_wouldSee yX6_wouldSee, Cond.code yX6_wouldSee cX6_wouldSee 2 (some .boolean), Cond.methodLink RX7 340 yX6_see, Cond.instanceMethod yX6_see, Cond.selects RX6 yX6_see yX6_see, Cond.code yX6_see cX6_see 2 none, Cond.methodLink RX7 333 yX7_hasVisitor, Cond.instanceMethod yX7_hasVisitor]
def wsL_law0_r23 : List Cond := [Cond.selects RX7 yX7_hasVisitor yX7_hasVisitor, Cond.code yX7_hasVisitor cX7_hasVisitor 3 (some .boolean), Cond.methodLink RX7 322 yX7_lease, Cond.instanceMethod yX7_lease, Cond.selects RX7 yX7_lease yX7_lease, Cond.code yX7_lease cX7_lease 5 (some (.object "KioskReel$Outcome")), Cond.methodLink RX7 343 yX7_devicesOf, Cond.instanceMethod yX7_devicesOf, Cond.selects RX7 yX7_devicesOf yX7_devicesOf, Cond.code yX7_devicesOf cX7_devicesOf 4 (some .int), Cond.methodLink RX7 326 yX3_putOnPile, Cond.methodLink RX7 329 yX7_branch, Cond.instanceMethod yX7_branch, Cond.selects RX7 yX7_branch yX7_branch, Cond.code yX7_branch cX7_branch 4 none, Cond.methodLink RX7 195 yX7_watchFrozenKiosks, Cond.instanceMethod yX7_watchFrozenKiosks, Cond.selects RX7 yX7_watchFrozenKiosks yX7_watchFrozenKiosks, Cond.code yX7_watchFrozenKiosks cX7_watchFrozenKiosks 3 none, Cond.methodLink RX7 349 yX7_makeOut, Cond.instanceMethod yX7_makeOut, Cond.selects RX7 yX7_makeOut yX7_makeOut, Cond.code yX7_makeOut cX7_makeOut 6 none, Cond.methodLink RL 162 yX8_tick]
def wsL_law0_r24 : List Cond := [Cond.instanceMethod yX8_tick, Cond.selects RX8 yX8_tick yX8_tick, Cond.code yX8_tick cX8_tick 5 (some .int), Cond.fieldLink RX8 179 "KioskReelModel" "shown" "I", Cond.methodLink RX8 182 yX8_turn, Cond.instanceMethod yX8_turn, Cond.selects RX8 yX8_turn yX8_turn, Cond.code yX8_turn cX8_turn 6 none, Cond.fieldLink RX8 156 "KioskReelModel" "done" "J", Cond.methodLink RX8 160 yX8_does, Cond.instanceMethod yX8_does, Cond.selects RX8 yX8_does yX8_does, Cond.code yX8_does cX8_does 5 (some .boolean), Cond.methodLink RX8 164 yX8_shows, Cond.instanceMethod yX8_shows, Cond.selects RX8 yX8_shows yX8_shows, Cond.code yX8_shows cX8_shows 5 (some .boolean), Cond.fieldLink RX8 173 "KioskReelModel" "visitors" "I", Cond.methodLink RX8 176 yX8_sees, Cond.instanceMethod yX8_sees, Cond.selects RX8 yX8_sees yX8_sees, Cond.code yX8_sees cX8_sees 5 (some .boolean), Cond.methodLink RX8 170 yX8_present, Cond.instanceMethod yX8_present]
def wsL_law0_r25 : List Cond := [Cond.selects RX8 yX8_present yX8_present, Cond.code yX8_present cX8_present 4 (some .int), Cond.methodLink RX8 167 yX8_takes, Cond.instanceMethod yX8_takes, Cond.selects RX8 yX8_takes yX8_takes, Cond.code yX8_takes cX8_takes 3 (some .boolean), Cond.methodLink RX8 185 yX8_watches, Cond.instanceMethod yX8_watches, Cond.selects RX8 yX8_watches yX8_watches, Cond.code yX8_watches cX8_watches 3 none, Cond.methodLink RL 163 yL_slide, Cond.static yL_slide, Cond.codeWith yL_slide cL_slide 4 (some .int) [(0, 9, 12, 19), (0, 9, 15, 42)], Cond.methodLink RL 73 yX7_slide, Cond.instanceMethod yX7_slide, Cond.selects RX7 yX7_slide yX7_slide, Cond.code yX7_slide cX7_slide 3 (some .int), Cond.methodLink RL 165 yX8_slide, Cond.instanceMethod yX8_slide, Cond.selects RX8 yX8_slide yX8_slide, Cond.code yX8_slide cX8_slide 2 (some .int), Cond.methodLink RL 166 yL_holder, Cond.static yL_holder, Cond.codeWith yL_holder cL_holder 4 (some .int) [(0, 9, 12, 19), (0, 9, 15, 42)]]
def wsL_law0_r26 : List Cond := [Cond.methodLink RL 76 yX7_holder, Cond.instanceMethod yX7_holder, Cond.selects RX7 yX7_holder yX7_holder, Cond.code yX7_holder cX7_holder 3 (some .int), Cond.methodLink RX7 203 yX7_checkDevice, Cond.static yX7_checkDevice, Cond.code yX7_checkDevice cX7_checkDevice 1 none, Cond.methodLink RL 168 yX8_holder, Cond.instanceMethod yX8_holder, Cond.selects RX8 yX8_holder yX8_holder, Cond.code yX8_holder cX8_holder 2 (some .int), Cond.methodLink RX8 188 yX8_isDevice, Cond.static yX8_isDevice, Cond.code yX8_isDevice cX8_isDevice 1 (some .boolean), Cond.methodLink RL 169 yL_queued, Cond.static yL_queued, Cond.codeWith yL_queued cL_queued 5 (some .int) [(0, 10, 13, 19), (0, 10, 17, 42)], Cond.methodLink RL 79 yX7_queued, Cond.instanceMethod yX7_queued, Cond.selects RX7 yX7_queued yX7_queued, Cond.code yX7_queued cX7_queued 4 (some .int), Cond.methodLink RL 171 yX8_queued, Cond.instanceMethod yX8_queued, Cond.selects RX8 yX8_queued yX8_queued]
def wsL_law0_r27 : List Cond := [Cond.code yX8_queued cX8_queued 3 (some .int), Cond.methodLink RL 172 yL_visitor, Cond.static yL_visitor, Cond.codeWith yL_visitor cL_visitor 3 (some .int) [(0, 8, 11, 13)], Cond.methodLink RL 82 yX7_visitor, Cond.instanceMethod yX7_visitor, Cond.selects RX7 yX7_visitor yX7_visitor, Cond.code yX7_visitor cX7_visitor 1 (some .int), Cond.methodLink RL 174 yX8_visitor, Cond.instanceMethod yX8_visitor, Cond.selects RX8 yX8_visitor yX8_visitor, Cond.code yX8_visitor cX8_visitor 1 (some .int), Cond.methodLink RL 175 yL_go, Cond.static yL_go, Cond.codeWith yL_go cL_go 5 (some .int) [(0, 10, 13, 19)], Cond.methodLink RL 85 yX7_go, Cond.instanceMethod yX7_go, Cond.selects RX7 yX7_go yX7_go, Cond.code yX7_go cX7_go 4 (some .int), Cond.methodLink RX7 213 yX7_checkVisitor, Cond.instanceMethod yX7_checkVisitor, Cond.selects RX7 yX7_checkVisitor yX7_checkVisitor, Cond.code yX7_checkVisitor cX7_checkVisitor 2 none, Cond.methodLink RL 177 yX8_go]
def wsL_law0_r28 : List Cond := [Cond.instanceMethod yX8_go, Cond.selects RX8 yX8_go yX8_go, Cond.code yX8_go cX8_go 4 (some .int), Cond.methodLink RX8 191 yX8_isNoVisitor, Cond.instanceMethod yX8_isNoVisitor, Cond.selects RX8 yX8_isNoVisitor yX8_isNoVisitor, Cond.code yX8_isNoVisitor cX8_isNoVisitor 2 (some .boolean), Cond.methodLink RL 178 yL_ask, Cond.static yL_ask, Cond.codeWith yL_ask cL_ask 5 (some .int) [(0, 17, 20, 19), (0, 17, 24, 21)], Cond.methodLink RL 88 yX7_ask, Cond.instanceMethod yX7_ask, Cond.selects RX7 yX7_ask yX7_ask, Cond.code yX7_ask cX7_ask 4 (some .boolean), Cond.fieldLink RX7 220 "KioskReel$Visitor" "wants" "[Z", Cond.fieldLink RX7 224 "KioskReel$Visitor" "timesAsked" "[I", Cond.fieldLink RX7 227 "KioskReel$Visitor" "timesSeen" "[I", Cond.methodLink RX7 217 yX7_checkSlide, Cond.static yX7_checkSlide, Cond.code yX7_checkSlide cX7_checkSlide 1 none, Cond.methodLink RL 180 yX8_ask, Cond.instanceMethod yX8_ask, Cond.selects RX8 yX8_ask yX8_ask, Cond.code yX8_ask cX8_ask 3 (some .boolean)]
def wsL_law0_r29 : List Cond := [Cond.methodLink RL 181 yL_saw, Cond.static yL_saw, Cond.codeWith yL_saw cL_saw 5 (some .int) [(0, 10, 13, 19), (0, 10, 17, 21)], Cond.methodLink RL 92 yX7_saw, Cond.instanceMethod yX7_saw, Cond.selects RX7 yX7_saw yX7_saw, Cond.code yX7_saw cX7_saw 3 (some .int), Cond.methodLink RL 183 yX8_saw, Cond.instanceMethod yX8_saw, Cond.selects RX8 yX8_saw yX8_saw, Cond.code yX8_saw cX8_saw 3 (some .int), Cond.methodLink RL 184 yX7_done, Cond.instanceMethod yX7_done, Cond.selects RX7 yX7_done yX7_done, Cond.code yX7_done cX7_done 1 (some .long), Cond.methodLink RL 188 yX8_done, Cond.instanceMethod yX8_done, Cond.selects RX8 yX8_done yX8_done, Cond.code yX8_done cX8_done 1 (some .long), Cond.methodLink RL 189 yX7_heldShare, Cond.instanceMethod yX7_heldShare, Cond.selects RX7 yX7_heldShare yX7_heldShare, Cond.code yX7_heldShare cX7_heldShare 3 (some .float), Cond.constantFloat RX7 234 (1086324736)]
def wsL_law0_r30 : List Cond := [Cond.methodLink RL 193 yX8_heldShare, Cond.instanceMethod yX8_heldShare, Cond.selects RX8 yX8_heldShare yX8_heldShare, Cond.code yX8_heldShare cX8_heldShare 1 (some .float), Cond.constantFloat RX8 194 (1086324736), Cond.methodLink RL 194 yX7_heldBits, Cond.instanceMethod yX7_heldBits, Cond.selects RX7 yX7_heldBits yX7_heldBits, Cond.code yX7_heldBits cX7_heldBits 1 (some .int), Cond.methodLink RX7 235 yX7_heldShare, Cond.methodLink RX7 239 yX7_bitsOfShare, Cond.static yX7_bitsOfShare, Cond.code yX7_bitsOfShare cX7_bitsOfShare 4 (some .int), Cond.constantFloat RX7 358 (1258291200), Cond.methodLink RL 197 yX8_heldBits, Cond.instanceMethod yX8_heldBits, Cond.selects RX8 yX8_heldBits yX8_heldBits, Cond.code yX8_heldBits cX8_heldBits 1 (some .int), Cond.methodLink RX8 195 yX8_heldShare, Cond.methodLink RX8 199 yJxf58ca_floatToIntBits_5c35a, Cond.static yJxf58ca_floatToIntBits_5c35a, Cond.initialized RJxf58ca, Cond.code yJxf58ca_floatToIntBits_5c35a cJxf58ca_floatToIntBits_5c35a 1 (some .int), Cond.methodLink RJxf58ca 74 ⟨"java/lang/Float", "floatToRawIntBits", "(F)I"⟩]
def wsL_law0_r31 : List Cond := [Cond.native ⟨"java/lang/Float", "floatToRawIntBits", "(F)I"⟩, Cond.static ⟨"java/lang/Float", "floatToRawIntBits", "(F)I"⟩, Cond.initialized "java/lang/Float", Cond.constant RJxf58ca 77 (2143289344), Cond.methodLink RJxf58ca 59 yJxf58ca_isNaN_12338, Cond.static yJxf58ca_isNaN_12338, Cond.code yJxf58ca_isNaN_12338 cJxf58ca_isNaN_12338 1 (some .boolean), Cond.methodLink RL 198 yL_meanSeen, Cond.static yL_meanSeen, Cond.codeWith yL_meanSeen cL_meanSeen 3 (some .int) [(0, 7, 10, 99)], Cond.classLink RL 99 "java/lang/ArithmeticException", Cond.methodLink RL 95 yX7_meanSeen, Cond.instanceMethod yX7_meanSeen, Cond.selects RX7 yX7_meanSeen yX7_meanSeen, Cond.code yX7_meanSeen cX7_meanSeen 5 (some .double), Cond.classLink RX7 243 "java/lang/ArithmeticException", Cond.initialized "java/lang/ArithmeticException", Cond.methodLink RL 201 yX8_meanSeen, Cond.instanceMethod yX8_meanSeen, Cond.selects RX8 yX8_meanSeen yX8_meanSeen, Cond.code yX8_meanSeen cX8_meanSeen 4 (some .double), Cond.methodLink RL 202 yX7_isSound, Cond.instanceMethod yX7_isSound, Cond.selects RX7 yX7_isSound yX7_isSound]
def wsL_law0_r32 : List Cond := [Cond.code yX7_isSound cX7_isSound 1 (some .boolean), Cond.methodLink RX7 248 yX7_holdersAreSound, Cond.instanceMethod yX7_holdersAreSound, Cond.selects RX7 yX7_holdersAreSound yX7_holdersAreSound, Cond.code yX7_holdersAreSound cX7_holdersAreSound 3 (some .boolean), Cond.methodLink RX7 252 yX7_queuesAreSound, Cond.instanceMethod yX7_queuesAreSound, Cond.selects RX7 yX7_queuesAreSound yX7_queuesAreSound, Cond.code yX7_queuesAreSound cX7_queuesAreSound 5 (some .boolean), Cond.methodLink RX7 359 yX4_timesIn, Cond.instanceMethod yX4_timesIn, Cond.selects RX4 yX4_timesIn yX4_timesIn, Cond.code yX4_timesIn cX4_timesIn 4 (some .int), Cond.methodLink RX7 255 yX7_visitorsAreSound, Cond.instanceMethod yX7_visitorsAreSound, Cond.selects RX7 yX7_visitorsAreSound yX7_visitorsAreSound, Cond.code yX7_visitorsAreSound cX7_visitorsAreSound 3 (some .boolean), Cond.methodLink RL 206 yX8_isSound, Cond.instanceMethod yX8_isSound, Cond.selects RX8 yX8_isSound yX8_isSound, Cond.code yX8_isSound cX8_isSound 1 (some .boolean)]
def wsL_law0 : List Cond := (wsL_law0_r1 ++ (wsL_law0_r2 ++ (wsL_law0_r3 ++ (wsL_law0_r4 ++ (wsL_law0_r5 ++ (wsL_law0_r6 ++ (wsL_law0_r7 ++ (wsL_law0_r8 ++ (wsL_law0_r9 ++ (wsL_law0_r10 ++ (wsL_law0_r11 ++ (wsL_law0_r12 ++ (wsL_law0_r13 ++ (wsL_law0_r14 ++ (wsL_law0_r15 ++ (wsL_law0_r16 ++ (wsL_law0_r17 ++ (wsL_law0_r18 ++ (wsL_law0_r19 ++ (wsL_law0_r20 ++ (wsL_law0_r21 ++ (wsL_law0_r22 ++ (wsL_law0_r23 ++ (wsL_law0_r24 ++ (wsL_law0_r25 ++ (wsL_law0_r26 ++ (wsL_law0_r27 ++ (wsL_law0_r28 ++ (wsL_law0_r29 ++ (wsL_law0_r30 ++ (wsL_law0_r31 ++ wsL_law0_r32))))))))))))))))))))))))))))))) ++ wsX70 ++ wsX80 ++ wsX50 ++ wsX10 ++ wsX30 ++ wsX00 ++ wsX60 ++ wsX40 ++ ([] : List Cond)
def wsL_law : List Cond := wsL_law0 ++ (vx_atM "java/lang/ArrayIndexOutOfBoundsException" ["java/lang/IndexOutOfBoundsException", "java/lang/RuntimeException", "java/lang/Exception"]).filter goodWord ++ (vx_atS RX7 52 "java/lang/IllegalStateException" ["java/lang/RuntimeException", "java/lang/Exception"]).filter goodWord ++ (vx_atS RX7 66 "java/lang/IndexOutOfBoundsException" ["java/lang/RuntimeException", "java/lang/Exception"]).filter goodWord ++ (vx_atS RX7 82 "java/lang/IllegalArgumentException" ["java/lang/RuntimeException", "java/lang/Exception"]).filter goodWord ++ (nx_atS RX7 169 "java/util/NoSuchElementException" ["java/lang/RuntimeException", "java/lang/Exception"]).filter goodWord ++ (vx_atS RX7 247 "java/lang/ArithmeticException" ["java/lang/RuntimeException", "java/lang/Exception"]).filter goodWord
set_option maxRecDepth 20000 in
theorem wsL_law0_r1_in : ∀ w ∈ wsL_law0_r1, w ∈ lw_tbl := fun w h => (goodIn_p wsL_law0_r1 [72, 75] (by decide +kernel) (by decide +kernel) w h).1
theorem wsL_law0_r2_in : ∀ w ∈ wsL_law0_r2, w ∈ lw_tbl := fun w h => (goodIn_p wsL_law0_r2 [89, 110] (by decide +kernel) (by decide +kernel) w h).1
theorem wsL_law0_r3_in : ∀ w ∈ wsL_law0_r3, w ∈ lw_tbl := fun w h => (goodIn_p wsL_law0_r3 [116, 148, 191, 207] (by decide +kernel) (by decide +kernel) w h).1
theorem wsL_law0_r4_in : ∀ w ∈ wsL_law0_r4, w ∈ lw_tbl := fun w h => (goodIn_p wsL_law0_r4 [812] (by decide +kernel) (by decide +kernel) w h).1
theorem wsL_law0_r5_in : ∀ w ∈ wsL_law0_r5, w ∈ lw_tbl := fun w h => (goodIn_p wsL_law0_r5 [304] (by decide +kernel) (by decide +kernel) w h).1
theorem wsL_law0_r6_in : ∀ w ∈ wsL_law0_r6, w ∈ lw_tbl := fun w h => (goodIn_p wsL_law0_r6 [918, 922, 914, 407] (by decide +kernel) (by decide +kernel) w h).1
theorem wsL_law0_r7_in : ∀ w ∈ wsL_law0_r7, w ∈ lw_tbl := fun w h => (goodIn_p wsL_law0_r7 [411, 428, 431, 450, 456] (by decide +kernel) (by decide +kernel) w h).1
theorem wsL_law0_r8_in : ∀ w ∈ wsL_law0_r8, w ∈ lw_tbl := fun w h => (goodIn_p wsL_law0_r8 [926, 930, 933, 936, 939, 463] (by decide +kernel) (by decide +kernel) w h).1
theorem wsL_law0_r9_in : ∀ w ∈ wsL_law0_r9, w ∈ lw_tbl := fun w h => (goodIn_p wsL_law0_r9 [467, 943, 474, 478, 947] (by decide +kernel) (by decide +kernel) w h).1
theorem wsL_law0_r10_in : ∀ w ∈ wsL_law0_r10, w ∈ lw_tbl := fun w h => (goodIn_p wsL_law0_r10 [485, 951, 493, 497] (by decide +kernel) (by decide +kernel) w h).1
theorem wsL_law0_r11_in : ∀ w ∈ wsL_law0_r11, w ∈ lw_tbl := fun w h => (goodIn_p wsL_law0_r11 [503, 507, 511, 515, 519] (by decide +kernel) (by decide +kernel) w h).1
theorem wsL_law0_r12_in : ∀ w ∈ wsL_law0_r12, w ∈ lw_tbl := fun w h => (goodIn_p wsL_law0_r12 [523, 527, 531, 535, 539] (by decide +kernel) (by decide +kernel) w h).1
theorem wsL_law0_r13_in : ∀ w ∈ wsL_law0_r13, w ∈ lw_tbl := fun w h => (goodIn_p wsL_law0_r13 [543, 955, 959, 963, 967, 970] (by decide +kernel) (by decide +kernel) w h).1
theorem wsL_law0_r14_in : ∀ w ∈ wsL_law0_r14, w ∈ lw_tbl := fun w h => (goodIn_p wsL_law0_r14 [974, 551, 555, 575] (by decide +kernel) (by decide +kernel) w h).1
theorem wsL_law0_r15_in : ∀ w ∈ wsL_law0_r15, w ∈ lw_tbl := fun w h => (goodIn_p wsL_law0_r15 [978, 982, 986, 990, 994, 998] (by decide +kernel) (by decide +kernel) w h).1
theorem wsL_law0_r16_in : ∀ w ∈ wsL_law0_r16, w ∈ lw_tbl := fun w h => (goodIn_p wsL_law0_r16 [582, 1002, 589, 593] (by decide +kernel) (by decide +kernel) w h).1
theorem wsL_law0_r17_in : ∀ w ∈ wsL_law0_r17, w ∈ lw_tbl := fun w h => (goodIn_p wsL_law0_r17 [1006, 600, 1010, 607] (by decide +kernel) (by decide +kernel) w h).1
theorem wsL_law0_r18_in : ∀ w ∈ wsL_law0_r18, w ∈ lw_tbl := fun w h => (goodIn_p wsL_law0_r18 [1014, 614, 1018, 622] (by decide +kernel) (by decide +kernel) w h).1
theorem wsL_law0_r19_in : ∀ w ∈ wsL_law0_r19, w ∈ lw_tbl := fun w h => (goodIn_p wsL_law0_r19 [626, 1022, 1026, 633, 1030] (by decide +kernel) (by decide +kernel) w h).1
theorem wsL_law0_r20_in : ∀ w ∈ wsL_law0_r20, w ∈ lw_tbl := fun w h => (goodIn_p wsL_law0_r20 [640, 1034, 647, 652, 656] (by decide +kernel) (by decide +kernel) w h).1
theorem wsL_law0_r21_in : ∀ w ∈ wsL_law0_r21, w ∈ lw_tbl := fun w h => (goodIn_p wsL_law0_r21 [662, 666, 670] (by decide +kernel) (by decide +kernel) w h).1
theorem wsL_law0_r22_in : ∀ w ∈ wsL_law0_r22, w ∈ lw_tbl := fun w h => (goodIn_p wsL_law0_r22 [677, 681, 685, 689, 693] (by decide +kernel) (by decide +kernel) w h).1
theorem wsL_law0_r23_in : ∀ w ∈ wsL_law0_r23, w ∈ lw_tbl := fun w h => (goodIn_p wsL_law0_r23 [697, 705, 284, 710, 714, 718] (by decide +kernel) (by decide +kernel) w h).1
theorem wsL_law0_r24_in : ∀ w ∈ wsL_law0_r24, w ∈ lw_tbl := fun w h => (goodIn_p wsL_law0_r24 [1038, 1042, 1046, 1050, 1054] (by decide +kernel) (by decide +kernel) w h).1
theorem wsL_law0_r25_in : ∀ w ∈ wsL_law0_r25, w ∈ lw_tbl := fun w h => (goodIn_p wsL_law0_r25 [1058, 1062, 1066, 725, 1070] (by decide +kernel) (by decide +kernel) w h).1
theorem wsL_law0_r26_in : ∀ w ∈ wsL_law0_r26, w ∈ lw_tbl := fun w h => (goodIn_p wsL_law0_r26 [733, 736, 1074, 1077, 745] (by decide +kernel) (by decide +kernel) w h).1
theorem wsL_law0_r27_in : ∀ w ∈ wsL_law0_r27, w ∈ lw_tbl := fun w h => (goodIn_p wsL_law0_r27 [1081, 752, 1085, 760, 764] (by decide +kernel) (by decide +kernel) w h).1
theorem wsL_law0_r28_in : ∀ w ∈ wsL_law0_r28, w ∈ lw_tbl := fun w h => (goodIn_p wsL_law0_r28 [1089, 1093, 772, 775, 1097] (by decide +kernel) (by decide +kernel) w h).1
theorem wsL_law0_r29_in : ∀ w ∈ wsL_law0_r29, w ∈ lw_tbl := fun w h => (goodIn_p wsL_law0_r29 [783, 1101, 258, 1105, 262] (by decide +kernel) (by decide +kernel) w h).1
theorem wsL_law0_r30_in : ∀ w ∈ wsL_law0_r30, w ∈ lw_tbl := fun w h => (goodIn_p wsL_law0_r30 [1109, 267, 271, 1114, 1118] (by decide +kernel) (by decide +kernel) w h).1
theorem wsL_law0_r31_in : ∀ w ∈ wsL_law0_r31, w ∈ lw_tbl := fun w h => (goodIn_p wsL_law0_r31 [1121, 804, 1129] (by decide +kernel) (by decide +kernel) w h).1
theorem wsL_law0_r32_in : ∀ w ∈ wsL_law0_r32, w ∈ lw_tbl := fun w h => (goodIn_p wsL_law0_r32 [276, 280, 288, 292, 296, 1133] (by decide +kernel) (by decide +kernel) w h).1
theorem wsX70_lw : ∀ w ∈ wsX70, w ∈ lw_tbl := by decide +kernel
theorem wsX80_lw : ∀ w ∈ wsX80, w ∈ lw_tbl := by decide +kernel
theorem wsX50_lw : ∀ w ∈ wsX50, w ∈ lw_tbl := by decide +kernel
theorem wsX10_lw : ∀ w ∈ wsX10, w ∈ lw_tbl := by decide +kernel
theorem wsX30_lw : ∀ w ∈ wsX30, w ∈ lw_tbl := by decide +kernel
theorem wsX00_lw : ∀ w ∈ wsX00, w ∈ lw_tbl := by decide +kernel
theorem wsX60_lw : ∀ w ∈ wsX60, w ∈ lw_tbl := by decide +kernel
theorem wsX40_lw : ∀ w ∈ wsX40, w ∈ lw_tbl := by decide +kernel
theorem wsL_law_in0 : ∀ w ∈ wsL_law0, w ∈ lw_tbl := by
  unfold wsL_law0
  exact List.forall_mem_append.mpr ⟨List.forall_mem_append.mpr ⟨List.forall_mem_append.mpr ⟨List.forall_mem_append.mpr ⟨List.forall_mem_append.mpr ⟨List.forall_mem_append.mpr ⟨List.forall_mem_append.mpr ⟨List.forall_mem_append.mpr ⟨List.forall_mem_append.mpr ⟨List.forall_mem_append.mpr ⟨wsL_law0_r1_in, List.forall_mem_append.mpr ⟨wsL_law0_r2_in, List.forall_mem_append.mpr ⟨wsL_law0_r3_in, List.forall_mem_append.mpr ⟨wsL_law0_r4_in, List.forall_mem_append.mpr ⟨wsL_law0_r5_in, List.forall_mem_append.mpr ⟨wsL_law0_r6_in, List.forall_mem_append.mpr ⟨wsL_law0_r7_in, List.forall_mem_append.mpr ⟨wsL_law0_r8_in, List.forall_mem_append.mpr ⟨wsL_law0_r9_in, List.forall_mem_append.mpr ⟨wsL_law0_r10_in, List.forall_mem_append.mpr ⟨wsL_law0_r11_in, List.forall_mem_append.mpr ⟨wsL_law0_r12_in, List.forall_mem_append.mpr ⟨wsL_law0_r13_in, List.forall_mem_append.mpr ⟨wsL_law0_r14_in, List.forall_mem_append.mpr ⟨wsL_law0_r15_in, List.forall_mem_append.mpr ⟨wsL_law0_r16_in, List.forall_mem_append.mpr ⟨wsL_law0_r17_in, List.forall_mem_append.mpr ⟨wsL_law0_r18_in, List.forall_mem_append.mpr ⟨wsL_law0_r19_in, List.forall_mem_append.mpr ⟨wsL_law0_r20_in, List.forall_mem_append.mpr ⟨wsL_law0_r21_in, List.forall_mem_append.mpr ⟨wsL_law0_r22_in, List.forall_mem_append.mpr ⟨wsL_law0_r23_in, List.forall_mem_append.mpr ⟨wsL_law0_r24_in, List.forall_mem_append.mpr ⟨wsL_law0_r25_in, List.forall_mem_append.mpr ⟨wsL_law0_r26_in, List.forall_mem_append.mpr ⟨wsL_law0_r27_in, List.forall_mem_append.mpr ⟨wsL_law0_r28_in, List.forall_mem_append.mpr ⟨wsL_law0_r29_in, List.forall_mem_append.mpr ⟨wsL_law0_r30_in, List.forall_mem_append.mpr ⟨wsL_law0_r31_in, wsL_law0_r32_in⟩⟩⟩⟩⟩⟩⟩⟩⟩⟩⟩⟩⟩⟩⟩⟩⟩⟩⟩⟩⟩⟩⟩⟩⟩⟩⟩⟩⟩⟩⟩, wsX70_lw⟩, wsX80_lw⟩, wsX50_lw⟩, wsX10_lw⟩, wsX30_lw⟩, wsX00_lw⟩, wsX60_lw⟩, wsX40_lw⟩, fun _ h => absurd h List.not_mem_nil⟩
theorem wsL_law_x0 : ∀ w ∈ (vx_atM "java/lang/ArrayIndexOutOfBoundsException" ["java/lang/IndexOutOfBoundsException", "java/lang/RuntimeException", "java/lang/Exception"]).filter goodWord, w ∈ lw_tbl := by decide +kernel
theorem wsL_law_x1 : ∀ w ∈ (vx_atS RX7 52 "java/lang/IllegalStateException" ["java/lang/RuntimeException", "java/lang/Exception"]).filter goodWord, w ∈ lw_tbl := by decide +kernel
theorem wsL_law_x2 : ∀ w ∈ (vx_atS RX7 66 "java/lang/IndexOutOfBoundsException" ["java/lang/RuntimeException", "java/lang/Exception"]).filter goodWord, w ∈ lw_tbl := by decide +kernel
theorem wsL_law_x3 : ∀ w ∈ (vx_atS RX7 82 "java/lang/IllegalArgumentException" ["java/lang/RuntimeException", "java/lang/Exception"]).filter goodWord, w ∈ lw_tbl := by decide +kernel
theorem wsL_law_x4 : ∀ w ∈ (nx_atS RX7 169 "java/util/NoSuchElementException" ["java/lang/RuntimeException", "java/lang/Exception"]).filter goodWord, w ∈ lw_tbl := by decide +kernel
theorem wsL_law_x5 : ∀ w ∈ (vx_atS RX7 247 "java/lang/ArithmeticException" ["java/lang/RuntimeException", "java/lang/Exception"]).filter goodWord, w ∈ lw_tbl := by decide +kernel
theorem wsL_law_in : ∀ w ∈ wsL_law, w ∈ lw_tbl := fun w h => (List.mem_append.mp h).elim (fun h => (List.mem_append.mp h).elim (fun h => (List.mem_append.mp h).elim (fun h => (List.mem_append.mp h).elim (fun h => (List.mem_append.mp h).elim (fun h => (List.mem_append.mp h).elim (fun h => wsL_law_in0 w h) (fun h => wsL_law_x0 w h)) (fun h => wsL_law_x1 w h)) (fun h => wsL_law_x2 w h)) (fun h => wsL_law_x3 w h)) (fun h => wsL_law_x4 w h)) (fun h => wsL_law_x5 w h)
theorem inlX0 : ∀ w ∈ wsX00, w ∈ wsL_law := fun _ h => List.mem_append_left _ (List.mem_append_left _ (List.mem_append_left _ (List.mem_append_left _ (List.mem_append_left _ (List.mem_append_left _ (List.mem_append_left _ (List.mem_append_left _ (List.mem_append_left _ (List.mem_append_right _ h)))))))))
theorem inX0 : ∀ w ∈ wsX00, w ∈ lw_tbl := fun w h => wsL_law_in w (inlX0 w h)
theorem inlX1 : ∀ w ∈ wsX10, w ∈ wsL_law := fun _ h => List.mem_append_left _ (List.mem_append_left _ (List.mem_append_left _ (List.mem_append_left _ (List.mem_append_left _ (List.mem_append_left _ (List.mem_append_left _ (List.mem_append_left _ (List.mem_append_left _ (List.mem_append_left _ (List.mem_append_left _ (List.mem_append_right _ h)))))))))))
theorem inX1 : ∀ w ∈ wsX10, w ∈ lw_tbl := fun w h => wsL_law_in w (inlX1 w h)
theorem inX2 : ∀ w ∈ wsX20, w ∈ lw_tbl := by decide +kernel
theorem inlX3 : ∀ w ∈ wsX30, w ∈ wsL_law := fun _ h => List.mem_append_left _ (List.mem_append_left _ (List.mem_append_left _ (List.mem_append_left _ (List.mem_append_left _ (List.mem_append_left _ (List.mem_append_left _ (List.mem_append_left _ (List.mem_append_left _ (List.mem_append_left _ (List.mem_append_right _ h))))))))))
theorem inX3 : ∀ w ∈ wsX30, w ∈ lw_tbl := fun w h => wsL_law_in w (inlX3 w h)
theorem inlX4 : ∀ w ∈ wsX40, w ∈ wsL_law := fun _ h => List.mem_append_left _ (List.mem_append_left _ (List.mem_append_left _ (List.mem_append_left _ (List.mem_append_left _ (List.mem_append_left _ (List.mem_append_left _ (List.mem_append_right _ h)))))))
theorem inX4 : ∀ w ∈ wsX40, w ∈ lw_tbl := fun w h => wsL_law_in w (inlX4 w h)
theorem inlX5 : ∀ w ∈ wsX50, w ∈ wsL_law := fun _ h => List.mem_append_left _ (List.mem_append_left _ (List.mem_append_left _ (List.mem_append_left _ (List.mem_append_left _ (List.mem_append_left _ (List.mem_append_left _ (List.mem_append_left _ (List.mem_append_left _ (List.mem_append_left _ (List.mem_append_left _ (List.mem_append_left _ (List.mem_append_right _ h))))))))))))
theorem inX5 : ∀ w ∈ wsX50, w ∈ lw_tbl := fun w h => wsL_law_in w (inlX5 w h)
theorem inlX6 : ∀ w ∈ wsX60, w ∈ wsL_law := fun _ h => List.mem_append_left _ (List.mem_append_left _ (List.mem_append_left _ (List.mem_append_left _ (List.mem_append_left _ (List.mem_append_left _ (List.mem_append_left _ (List.mem_append_left _ (List.mem_append_right _ h))))))))
theorem inX6 : ∀ w ∈ wsX60, w ∈ lw_tbl := fun w h => wsL_law_in w (inlX6 w h)
theorem inlX7 : ∀ w ∈ wsX70, w ∈ wsL_law := fun _ h => List.mem_append_left _ (List.mem_append_left _ (List.mem_append_left _ (List.mem_append_left _ (List.mem_append_left _ (List.mem_append_left _ (List.mem_append_left _ (List.mem_append_left _ (List.mem_append_left _ (List.mem_append_left _ (List.mem_append_left _ (List.mem_append_left _ (List.mem_append_left _ (List.mem_append_left _ (List.mem_append_right _ h))))))))))))))
theorem inX7 : ∀ w ∈ wsX70, w ∈ lw_tbl := fun w h => wsL_law_in w (inlX7 w h)
theorem inlX8 : ∀ w ∈ wsX80, w ∈ wsL_law := fun _ h => List.mem_append_left _ (List.mem_append_left _ (List.mem_append_left _ (List.mem_append_left _ (List.mem_append_left _ (List.mem_append_left _ (List.mem_append_left _ (List.mem_append_left _ (List.mem_append_left _ (List.mem_append_left _ (List.mem_append_left _ (List.mem_append_left _ (List.mem_append_left _ (List.mem_append_right _ h)))))))))))))
theorem inX8 : ∀ w ∈ wsX80, w ∈ lw_tbl := fun w h => wsL_law_in w (inlX8 w h)
theorem inJx145de : ∀ w ∈ wsJx145de0, w ∈ lw_tbl := by decide +kernel
theorem inJx00060 : ∀ w ∈ wsJx000600, w ∈ lw_tbl := by decide +kernel
theorem inJxb160c : ∀ w ∈ wsJxb160c0, w ∈ lw_tbl := by decide +kernel
theorem inJx29ce0 : ∀ w ∈ wsJx29ce00, w ∈ lw_tbl := by decide +kernel
theorem inJxf58ca : ∀ w ∈ wsJxf58ca0, w ∈ lw_tbl := by decide +kernel
theorem inJxd2413 : ∀ w ∈ wsJxd24130, w ∈ lw_tbl := by decide +kernel
theorem inJ0 : ∀ w ∈ wsJ00, w ∈ lw_tbl := by decide +kernel
theorem inJxfd54e : ∀ w ∈ wsJxfd54e0, w ∈ lw_tbl := by decide +kernel
theorem inJx3cf43 : ∀ w ∈ wsJx3cf430, w ∈ lw_tbl := by decide +kernel
abbrev vwCl : List vw_C := [(RJ0, TJ0, 2), (RJx00060, TJx00060, 6), (RX0, TX0, 2), (RX1, TX1, 5), (RX3, TX3, 9), (RX4, TX4, 2), (RX5, TX5, 3), (RX6, TX6, 4), (RX7, TX7, 9), (RX8, TX8, 32)]
end
section
section BASE0
/-- whole numbers as the machine's ints and longs -/
def zi (x : Int) : Int32 := Int32.ofInt x
def zl (x : Int) : Int64 := Int64.ofInt x
abbrev sm (x : Int) : Prop := -2147483648 ≤ x ∧ x < 2147483648
theorem zi_add (a b : Int) : zi a + zi b = zi (a + b) := (Int32.ofInt_add a b).symm
theorem zi_sub (a b : Int) : zi a - zi b = zi (a - b) := (Int32.ofInt_sub a b).symm
theorem zi_mul (a b : Int) : zi a * zi b = zi (a * b) := (Int32.ofInt_mul a b).symm
theorem zl_add (a b : Int) : zl a + zl b = zl (a + b) := (Int64.ofInt_add a b).symm
theorem zi_of (x : Int32) : zi x.toInt = x := Int32.ofInt_toInt x
theorem zi_int {x : Int} (h : sm x) : (zi x).toInt = x := Int32.toInt_ofInt_of_le (by have := h.1; omega) (by have := h.2; omega)
theorem z0 : (0 : Int32) = zi 0 := by decide
theorem zi_lt {a b : Int} (ha : sm a) (hb : sm b) : zi a < zi b ↔ a < b := by rw [Int32.lt_iff_toInt_lt, zi_int ha, zi_int hb]
theorem zi_le {a b : Int} (ha : sm a) (hb : sm b) : zi a ≤ zi b ↔ a ≤ b := by rw [Int32.le_iff_toInt_le, zi_int ha, zi_int hb]
theorem zi_eq {a b : Int} (ha : sm a) (hb : sm b) : zi a = zi b ↔ a = b := by rw [← Int32.toInt_inj, zi_int ha, zi_int hb]
theorem zi_rng (x : Int32) : sm x.toInt := ⟨by have := Int32.le_toInt x; omega, by have := Int32.toInt_lt x; omega⟩
theorem zi_cl {e : Int} (h0 : 0 ≤ e) (h1 : e < 2147483648) : (zi e).toNatClampNeg = e.toNat := Int32.toNatClampNeg_ofInt_of_le (by omega) (by omega)
theorem zi_in {e : Int} {n : Nat} (h0 : 0 ≤ e) (h1 : e < n) (hn : n < 2147483648) : vp_in (zi e) n := vp_in_iff.mpr (by rw [zi_int ⟨by omega, by omega⟩]; exact ⟨h0, h1⟩)
/-- numbers by tag, place, slot -/
abbrev St : Type := Nat → Int → Int → Int
def ups (σ : St) (t : Nat) (i j v : Int) : St := fun t' i' j' => if t' = t ∧ i' = i ∧ j' = j then v else σ t' i' j'
theorem ups_eq (σ : St) (t : Nat) (i j v : Int) : ups σ t i j v t i j = v := by simp [ups]
theorem ups_t (σ : St) {t t' : Nat} (h : t' ≠ t) (i j v i' j' : Int) : ups σ t i j v t' i' j' = σ t' i' j' := by simp [ups, h]
theorem ups_i (σ : St) (t t' : Nat) {i i' : Int} (h : i' ≠ i) (j v j' : Int) : ups σ t i j v t' i' j' = σ t' i' j' := by simp [ups, h]
theorem ups_j (σ : St) (t t' : Nat) {j j' : Int} (h : j' ≠ j) (i v i' : Int) : ups σ t i j v t' i' j' = σ t' i' j' := by simp [ups, h]
def tyL (cA : Nat → ClassId) : List (ClassId × FieldType) := [(cA 0, .char), (cA 1, .int), (cA 2, .boolean), (cA 3, .object "KioskReel$Reel"), (cA 4, .object "KioskReel$Kiosk"), (cA 5, .object "KioskReel$Player"), (cA 6, .object "KioskReel$Device"), (cA 7, .object "KioskReel$Visitor")]
/-- a world: the cell of tag t, place i lies at ad t i and holds E t i, for i below cnt t -/
def WP (Dg : va_G) (cnt : Nat → Int) (ad : Nat → Int → Nat) (E : Nat → Int → va_E) (H : Heap) : Prop := ∀ (t : Nat) (i : Int), 0 ≤ i → i < cnt t → va_at Dg vwCl (ad t i, E t i) H
def WI (cnt : Nat → Int) (ad : Nat → Int → Nat) : Prop := ∀ (t : Nat) (i : Int) (t' : Nat) (i' : Int), 0 ≤ i → i < cnt t → 0 ≤ i' → i' < cnt t' → ad t i = ad t' i' → t = t' ∧ i = i'
def WA (cnt : Nat → Int) (ad : Nat → Int → Nat) (sz : Nat) : Nat → Prop := fun q => (∃ (t : Nat) (i : Int), 0 ≤ i ∧ i < cnt t ∧ q = ad t i) ∨ sz ≤ q
def upE (E : Nat → Int → va_E) (t : Nat) (i : Int) (e : va_E) : Nat → Int → va_E := fun t' i' => if t' = t ∧ i' = i then e else E t' i'
theorem WP.one {Dg : va_G} {cnt : Nat → Int} {ad : Nat → Int → Nat} {E : Nat → Int → va_E} {H : Heap} (h : WP Dg cnt ad E H) {t : Nat} {i : Int} {e : va_E} (h0 : 0 ≤ i) (h1 : i < cnt t) (he : E t i = e) : va_P Dg vwCl [(ad t i, e)] H := by
  intro k q hk
  have hz : k < 1 := (List.getElem?_eq_some_iff.mp hk).1
  rw [show k = 0 by omega] at hk
  cases hk
  rw [← he]
  exact h t i h0 h1
theorem WP.set {Dg : va_G} {cnt : Nat → Int} {ad : Nat → Int → Nat} {E : Nat → Int → va_E} {H H1 : Heap} (h : WP Dg cnt ad E H) (hI : WI cnt ad) {t : Nat} {i : Int} {e : va_E} (h0 : 0 ≤ i) (h1 : i < cnt t) (he : va_at Dg vwCl (ad t i, e) H1) (oq : ∀ q : Nat, q ≠ ad t i → H1[q]? = H[q]?) : WP Dg cnt ad (upE E t i e) H1 := by
  intro t' i' h0' h1'
  unfold upE
  by_cases hx : t' = t ∧ i' = i
  · obtain ⟨rfl, rfl⟩ := hx
    rw [if_pos ⟨rfl, rfl⟩]
    exact he
  · rw [if_neg hx]
    exact (h t' i' h0' h1').kept (oq _ (fun z => hx (hI t' i' t i h0' h1' h0 h1 z)))
theorem WP.kept {Dg : va_G} {cnt : Nat → Int} {ad : Nat → Int → Nat} {E : Nat → Int → va_E} {H H1 : Heap} (h : WP Dg cnt ad E H) (hq : ∀ (t : Nat) (i : Int), 0 ≤ i → i < cnt t → H1[ad t i]? = H[ad t i]?) : WP Dg cnt ad E H1 := fun t i h0 h1 => (h t i h0 h1).kept (hq t i h0 h1)
theorem WP.lt {Dg : va_G} {cnt : Nat → Int} {ad : Nat → Int → Nat} {E : Nat → Int → va_E} {H : Heap} (h : WP Dg cnt ad E H) {t : Nat} {i : Int} (h0 : 0 ≤ i) (h1 : i < cnt t) : ad t i < H.size := (h t i h0 h1).lt
/-- what a method's walk stands on -/
def CX (p : Program) (c : Code) (cc : ByteArray) (s : State) (m : MethodId) (args : Array Value) (own : String) (Ts : List Cond) (Dg : va_G) (cA : Nat → ClassId) (cnt : Nat → Int) (ad : Nat → Int → Nat) (A : Nat → Prop) : Prop :=
  p.tables.exec = Jvm.exec ∧ c.code = cc ∧ s.vm.findClass own = some m.cls ∧ (∀ w ∈ Ts, w.before args s = true) ∧ va_K Dg vwCl (tyL cA) s ∧ WI cnt ad ∧ ∀ (t : Nat) (i : Int), 0 ≤ i → i < cnt t → A (ad t i)
end BASE0
section BASE1
variable {p : Program} {l : Launch} {e : Env} {R : Room} {s : State} {m : MethodId} {args : Array Value} {below : List Frame} {meth : Method} {c : Code} {H H0 : Heap} {locs : List Loc} {cells slots : Nat} {Q : State → Prop} {cc : ByteArray} {pc : Nat} {ls : Array Slot} {rest : List Value} {own : String} {Ts : List Cond} {Dg : va_G} {cA : Nat → ClassId} {cnt : Nat → Int} {ad : Nat → Int → Nat} {A : Nat → Prop} {E E' : Nat → Int → va_E}
-- arithmetic
theorem k_iadd (hC : CX p c cc s m args own Ts Dg cA cnt ad A) {a b : Int} (hdg : decode cc pc = .ok (.iadd, 1)) (kk : W p l e R s m args below meth c H locs cells slots Q (F0 m (pc + 1) ls (.int (zi (a + b)) :: rest))) : W p l e R s m args below meth c H locs cells slots Q (F0 m pc ls (.int (zi b) :: .int (zi a) :: rest)) :=
  lv_iadd hC.1 hC.2.1 hdg (by rw [zi_add]; exact kk)
theorem k_isub (hC : CX p c cc s m args own Ts Dg cA cnt ad A) {a b : Int} (hdg : decode cc pc = .ok (.isub, 1)) (kk : W p l e R s m args below meth c H locs cells slots Q (F0 m (pc + 1) ls (.int (zi (a - b)) :: rest))) : W p l e R s m args below meth c H locs cells slots Q (F0 m pc ls (.int (zi b) :: .int (zi a) :: rest)) :=
  lv_isub hC.1 hC.2.1 hdg (by rw [zi_sub]; exact kk)
theorem k_imul (hC : CX p c cc s m args own Ts Dg cA cnt ad A) {a b : Int} (hdg : decode cc pc = .ok (.imul, 1)) (kk : W p l e R s m args below meth c H locs cells slots Q (F0 m (pc + 1) ls (.int (zi (a * b)) :: rest))) : W p l e R s m args below meth c H locs cells slots Q (F0 m pc ls (.int (zi b) :: .int (zi a) :: rest)) :=
  lv_imul hC.1 hC.2.1 hdg (by rw [zi_mul]; exact kk)
theorem k_ladd (hC : CX p c cc s m args own Ts Dg cA cnt ad A) {a b : Int} (hdg : decode cc pc = .ok (.ladd, 1)) (kk : W p l e R s m args below meth c H locs cells slots Q (F0 m (pc + 1) ls (.long (zl (a + b)) :: rest))) : W p l e R s m args below meth c H locs cells slots Q (F0 m pc ls (.long (zl b) :: .long (zl a) :: rest)) :=
  lv_ladd hC.1 hC.2.1 hdg (by rw [zl_add]; exact kk)
theorem k_iconst (hC : CX p c cc s m args own Ts Dg cA cnt ad A) {n : Int} (hdg : decode cc pc = .ok (.iconst n, 1)) (kk : W p l e R s m args below meth c H locs cells slots Q (F0 m (pc + 1) ls (.int (zi n) :: rest))) : W p l e R s m args below meth c H locs cells slots Q (F0 m pc ls rest) :=
  lv_iconst hC.1 hC.2.1 hdg rfl kk
theorem k_bipush (hC : CX p c cc s m args own Ts Dg cA cnt ad A) {n : Int} (hdg : decode cc pc = .ok (.bipush n, 2)) (hn : (Int8.ofInt n).toInt32 = zi n) (kk : W p l e R s m args below meth c H locs cells slots Q (F0 m (pc + 2) ls (.int (zi n) :: rest))) : W p l e R s m args below meth c H locs cells slots Q (F0 m pc ls rest) :=
  lv_bipush hC.1 hC.2.1 hdg hn kk
theorem k_sipush (hC : CX p c cc s m args own Ts Dg cA cnt ad A) {n : Int} (hdg : decode cc pc = .ok (.sipush n, 3)) (hn : (Int16.ofInt n).toInt32 = zi n) (kk : W p l e R s m args below meth c H locs cells slots Q (F0 m (pc + 3) ls (.int (zi n) :: rest))) : W p l e R s m args below meth c H locs cells slots Q (F0 m pc ls rest) :=
  lv_sipush hC.1 hC.2.1 hdg hn kk
theorem k_iinc (hC : CX p c cc s m args own Ts Dg cA cnt ad A) {i nL k : Nat} {n a : Int} {lv lv' : List (Nat × Value)} (hdg : decode cc pc = .ok (.iinc i n, 3)) (h : lv_has ls nL lv) (hk : lv[k]? = some (i, .int (zi a))) (hn : i < nL) (hl : (i, Value.int (zi (a + n))) :: lv.filter (fun q => !(q.1 == i) && !(q.1 + 1 == i && q.2.category == 2)) = lv')
    (kk : ∀ ls : Array Slot, lv_has ls nL lv' → W p l e R s m args below meth c H locs cells slots Q (F0 m (pc + 3) ls rest)) : W p l e R s m args below meth c H locs cells slots Q (F0 m pc ls rest) :=
  lv_iinc hC.1 hC.2.1 hdg h hk (zi_add a n) hn hl kk
-- branches
theorem k_icmp_eq (hC : CX p c cc s m args own Ts Dg cA cnt ad A) {a b off : Int} {tgt : Nat} (hdg : decode cc pc = .ok (.if_icmp .eq off, 3)) (ht : (pc : Int) + off = (tgt : Int)) (hs : (-2147483648 ≤ a ∧ a < 2147483648) ∧ (-2147483648 ≤ b ∧ b < 2147483648)) (kt : a = b → W p l e R s m args below meth c H locs cells slots Q (F0 m tgt ls rest)) (kf : a ≠ b → W p l e R s m args below meth c H locs cells slots Q (F0 m (pc + 3) ls rest)) : W p l e R s m args below meth c H locs cells slots Q (F0 m pc ls (.int (zi b) :: .int (zi a) :: rest)) :=
  lv_icmp_eq hC.1 hC.2.1 hdg ht (fun h => kt ((zi_eq hs.1 hs.2).mp h)) (fun h => kf (fun z => h ((zi_eq hs.1 hs.2).mpr z)))
theorem k_icmp_ne (hC : CX p c cc s m args own Ts Dg cA cnt ad A) {a b off : Int} {tgt : Nat} (hdg : decode cc pc = .ok (.if_icmp .ne off, 3)) (ht : (pc : Int) + off = (tgt : Int)) (hs : (-2147483648 ≤ a ∧ a < 2147483648) ∧ (-2147483648 ≤ b ∧ b < 2147483648)) (kt : a ≠ b → W p l e R s m args below meth c H locs cells slots Q (F0 m tgt ls rest)) (kf : a = b → W p l e R s m args below meth c H locs cells slots Q (F0 m (pc + 3) ls rest)) : W p l e R s m args below meth c H locs cells slots Q (F0 m pc ls (.int (zi b) :: .int (zi a) :: rest)) :=
  lv_icmp_ne hC.1 hC.2.1 hdg ht (fun h => kt (fun z => h ((zi_eq hs.1 hs.2).mpr z))) (fun h => kf ((zi_eq hs.1 hs.2).mp h))
theorem k_icmp_lt (hC : CX p c cc s m args own Ts Dg cA cnt ad A) {a b off : Int} {tgt : Nat} (hdg : decode cc pc = .ok (.if_icmp .lt off, 3)) (ht : (pc : Int) + off = (tgt : Int)) (hs : (-2147483648 ≤ a ∧ a < 2147483648) ∧ (-2147483648 ≤ b ∧ b < 2147483648)) (kt : a < b → W p l e R s m args below meth c H locs cells slots Q (F0 m tgt ls rest)) (kf : b ≤ a → W p l e R s m args below meth c H locs cells slots Q (F0 m (pc + 3) ls rest)) : W p l e R s m args below meth c H locs cells slots Q (F0 m pc ls (.int (zi b) :: .int (zi a) :: rest)) :=
  lv_icmp_lt hC.1 hC.2.1 hdg ht (fun h => kt ((zi_lt hs.1 hs.2).mp h)) (fun h => kf (Int.not_lt.mp (fun z => h ((zi_lt hs.1 hs.2).mpr z))))
theorem k_icmp_ge (hC : CX p c cc s m args own Ts Dg cA cnt ad A) {a b off : Int} {tgt : Nat} (hdg : decode cc pc = .ok (.if_icmp .ge off, 3)) (ht : (pc : Int) + off = (tgt : Int)) (hs : (-2147483648 ≤ a ∧ a < 2147483648) ∧ (-2147483648 ≤ b ∧ b < 2147483648)) (kt : b ≤ a → W p l e R s m args below meth c H locs cells slots Q (F0 m tgt ls rest)) (kf : a < b → W p l e R s m args below meth c H locs cells slots Q (F0 m (pc + 3) ls rest)) : W p l e R s m args below meth c H locs cells slots Q (F0 m pc ls (.int (zi b) :: .int (zi a) :: rest)) :=
  lv_icmp_ge hC.1 hC.2.1 hdg ht (fun h => kt ((zi_le hs.2 hs.1).mp h)) (fun h => kf (Int.not_le.mp (fun z => h ((zi_le hs.2 hs.1).mpr z))))
theorem k_icmp_gt (hC : CX p c cc s m args own Ts Dg cA cnt ad A) {a b off : Int} {tgt : Nat} (hdg : decode cc pc = .ok (.if_icmp .gt off, 3)) (ht : (pc : Int) + off = (tgt : Int)) (hs : (-2147483648 ≤ a ∧ a < 2147483648) ∧ (-2147483648 ≤ b ∧ b < 2147483648)) (kt : b < a → W p l e R s m args below meth c H locs cells slots Q (F0 m tgt ls rest)) (kf : a ≤ b → W p l e R s m args below meth c H locs cells slots Q (F0 m (pc + 3) ls rest)) : W p l e R s m args below meth c H locs cells slots Q (F0 m pc ls (.int (zi b) :: .int (zi a) :: rest)) :=
  lv_icmp_gt hC.1 hC.2.1 hdg ht (fun h => kt ((zi_lt hs.2 hs.1).mp h)) (fun h => kf (Int.not_lt.mp (fun z => h ((zi_lt hs.2 hs.1).mpr z))))
theorem k_icmp_le (hC : CX p c cc s m args own Ts Dg cA cnt ad A) {a b off : Int} {tgt : Nat} (hdg : decode cc pc = .ok (.if_icmp .le off, 3)) (ht : (pc : Int) + off = (tgt : Int)) (hs : (-2147483648 ≤ a ∧ a < 2147483648) ∧ (-2147483648 ≤ b ∧ b < 2147483648)) (kt : a ≤ b → W p l e R s m args below meth c H locs cells slots Q (F0 m tgt ls rest)) (kf : b < a → W p l e R s m args below meth c H locs cells slots Q (F0 m (pc + 3) ls rest)) : W p l e R s m args below meth c H locs cells slots Q (F0 m pc ls (.int (zi b) :: .int (zi a) :: rest)) :=
  lv_icmp_le hC.1 hC.2.1 hdg ht (fun h => kt ((zi_le hs.1 hs.2).mp h)) (fun h => kf (Int.not_le.mp (fun z => h ((zi_le hs.1 hs.2).mpr z))))
theorem sm0 : sm 0 := ⟨by omega, by omega⟩
theorem k_if_eq (hC : CX p c cc s m args own Ts Dg cA cnt ad A) {a off : Int} {tgt : Nat} (hdg : decode cc pc = .ok (.ifCond .eq off, 3)) (ht : (pc : Int) + off = (tgt : Int)) (hs : -2147483648 ≤ a ∧ a < 2147483648) (kt : a = 0 → W p l e R s m args below meth c H locs cells slots Q (F0 m tgt ls rest)) (kf : a ≠ 0 → W p l e R s m args below meth c H locs cells slots Q (F0 m (pc + 3) ls rest)) : W p l e R s m args below meth c H locs cells slots Q (F0 m pc ls (.int (zi a) :: rest)) :=
  lv_if_eq hC.1 hC.2.1 hdg ht (fun h => kt ((zi_eq hs sm0).mp (h.trans z0))) (fun h => kf (fun z => h (((zi_eq hs sm0).mpr z).trans z0.symm)))
theorem k_if_ne (hC : CX p c cc s m args own Ts Dg cA cnt ad A) {a off : Int} {tgt : Nat} (hdg : decode cc pc = .ok (.ifCond .ne off, 3)) (ht : (pc : Int) + off = (tgt : Int)) (hs : -2147483648 ≤ a ∧ a < 2147483648) (kt : a ≠ 0 → W p l e R s m args below meth c H locs cells slots Q (F0 m tgt ls rest)) (kf : a = 0 → W p l e R s m args below meth c H locs cells slots Q (F0 m (pc + 3) ls rest)) : W p l e R s m args below meth c H locs cells slots Q (F0 m pc ls (.int (zi a) :: rest)) :=
  lv_if_ne hC.1 hC.2.1 hdg ht (fun h => kt (fun z => h (((zi_eq hs sm0).mpr z).trans z0.symm))) (fun h => kf ((zi_eq hs sm0).mp (h.trans z0)))
theorem k_if_lt (hC : CX p c cc s m args own Ts Dg cA cnt ad A) {a off : Int} {tgt : Nat} (hdg : decode cc pc = .ok (.ifCond .lt off, 3)) (ht : (pc : Int) + off = (tgt : Int)) (hs : -2147483648 ≤ a ∧ a < 2147483648) (kt : a < 0 → W p l e R s m args below meth c H locs cells slots Q (F0 m tgt ls rest)) (kf : 0 ≤ a → W p l e R s m args below meth c H locs cells slots Q (F0 m (pc + 3) ls rest)) : W p l e R s m args below meth c H locs cells slots Q (F0 m pc ls (.int (zi a) :: rest)) :=
  lv_if_lt hC.1 hC.2.1 hdg ht (fun h => kt ((zi_lt hs sm0).mp (by rw [← z0]; exact h))) (fun h => kf (Int.not_lt.mp (fun z => h (by rw [z0]; exact (zi_lt hs sm0).mpr z))))
theorem k_if_ge (hC : CX p c cc s m args own Ts Dg cA cnt ad A) {a off : Int} {tgt : Nat} (hdg : decode cc pc = .ok (.ifCond .ge off, 3)) (ht : (pc : Int) + off = (tgt : Int)) (hs : -2147483648 ≤ a ∧ a < 2147483648) (kt : 0 ≤ a → W p l e R s m args below meth c H locs cells slots Q (F0 m tgt ls rest)) (kf : a < 0 → W p l e R s m args below meth c H locs cells slots Q (F0 m (pc + 3) ls rest)) : W p l e R s m args below meth c H locs cells slots Q (F0 m pc ls (.int (zi a) :: rest)) :=
  lv_if_ge hC.1 hC.2.1 hdg ht (fun h => kt ((zi_le sm0 hs).mp (by rw [← z0]; exact h))) (fun h => kf (Int.not_le.mp (fun z => h (by rw [z0]; exact (zi_le sm0 hs).mpr z))))
theorem k_if_gt (hC : CX p c cc s m args own Ts Dg cA cnt ad A) {a off : Int} {tgt : Nat} (hdg : decode cc pc = .ok (.ifCond .gt off, 3)) (ht : (pc : Int) + off = (tgt : Int)) (hs : -2147483648 ≤ a ∧ a < 2147483648) (kt : 0 < a → W p l e R s m args below meth c H locs cells slots Q (F0 m tgt ls rest)) (kf : a ≤ 0 → W p l e R s m args below meth c H locs cells slots Q (F0 m (pc + 3) ls rest)) : W p l e R s m args below meth c H locs cells slots Q (F0 m pc ls (.int (zi a) :: rest)) :=
  lv_if_gt hC.1 hC.2.1 hdg ht (fun h => kt ((zi_lt sm0 hs).mp (by rw [← z0]; exact h))) (fun h => kf (Int.not_lt.mp (fun z => h (by rw [z0]; exact (zi_lt sm0 hs).mpr z))))
theorem k_if_le (hC : CX p c cc s m args own Ts Dg cA cnt ad A) {a off : Int} {tgt : Nat} (hdg : decode cc pc = .ok (.ifCond .le off, 3)) (ht : (pc : Int) + off = (tgt : Int)) (hs : -2147483648 ≤ a ∧ a < 2147483648) (kt : a ≤ 0 → W p l e R s m args below meth c H locs cells slots Q (F0 m tgt ls rest)) (kf : 0 < a → W p l e R s m args below meth c H locs cells slots Q (F0 m (pc + 3) ls rest)) : W p l e R s m args below meth c H locs cells slots Q (F0 m pc ls (.int (zi a) :: rest)) :=
  lv_if_le hC.1 hC.2.1 hdg ht (fun h => kt ((zi_le hs sm0).mp (by rw [← z0]; exact h))) (fun h => kf (Int.not_le.mp (fun z => h (by rw [z0]; exact (zi_le hs sm0).mpr z))))
-- fields
theorem r_get (hC : CX p c cc s m args own Ts Dg cA cnt ad A) (hW : WP Dg cnt ad E H) {C ref : String} {T : u_T} {N ci index : Nat} (hin : ∀ w ∈ u_ws C T N, w ∈ Ts) (hc : vwCl[ci]? = some (C, T, N)) (k : Nat) (hk : k < N) (hl : (Cond.fieldLink own index ref (T k).2.1 (T k).2.2.1).before args s = true) (hsame : ∀ x, s.fieldFound? (T k).1 (T k).2.1 (T k).2.2.1 = some x → s.fieldFound? ref (T k).2.1 (T k).2.2.1 = some x) {t : Nat} {i : Int} (h0 : 0 ≤ i) (h1 : i < cnt t) {fs : List Value} (he : E t i = .inr (ci, fs)) {v : Value} (hv : fs[k]? = some v) (hdg : decode cc pc = .ok (.getfield index, 3))
    (kk : W p l e R s m args below meth c H locs cells slots Q (F0 m (pc + 3) ls (v :: rest))) : W p l e R s m args below meth c H locs cells slots Q (F0 m pc ls (.ref (ad t i) :: rest)) :=
  va_get (D := Dg) hC.1 hC.2.1 hC.2.2.2.1 hin hC.2.2.1 hC.2.2.2.2.1 (hW.one h0 h1 he) 0 rfl hc k hk hl hsame hv hdg kk
theorem r_put (hC : CX p c cc s m args own Ts Dg cA cnt ad A) (hW : WP Dg cnt ad E H) (hS0 : va_S A H0 H locs) {C ref : String} {T : u_T} {N ci index : Nat} (hin : ∀ w ∈ u_ws C T N, w ∈ Ts) (ty0 : Nat → FieldType) (hty : ∀ k, k < N → parseFieldDescriptor (T k).2.2.1 = some (ty0 k)) (hnm : ∀ a, a < N → ∀ b, b < N → a ≠ b → (T a).2.1 ≠ (T b).2.1) (hc : vwCl[ci]? = some (C, T, N)) (k : Nat) (hk : k < N) (hl : (Cond.fieldLink own index ref (T k).2.1 (T k).2.2.1).before args s = true) (hsame : ∀ x, s.fieldFound? (T k).1 (T k).2.1 (T k).2.2.1 = some x → s.fieldFound? ref (T k).2.1 (T k).2.2.1 = some x) (hfin : (T k).2.2.2 = false) {ty : FieldType} {v : Value} (hd : parseFieldDescriptor (T k).2.2.1 = some ty) (hn : narrow ty v = v) (hfit : fits ty v = true) {t : Nat} {i : Int} (h0 : 0 ≤ i) (h1 : i < cnt t) {fs : List Value} (he : E t i = .inr (ci, fs)) (hlen : k < fs.length) (hE : upE E t i (.inr (ci, fs.set k v)) = E') (hdg : decode cc pc = .ok (.putfield index, 3))
    (kk : ∀ (H1 : Heap) (locs1 : List Loc), WP Dg cnt ad E' H1 → va_S A H0 H1 locs1 → W p l e R s m args below meth c H1 locs1 cells slots Q (F0 m (pc + 3) ls rest)) : W p l e R s m args below meth c H locs cells slots Q (F0 m pc ls (v :: .ref (ad t i) :: rest)) := by
  obtain ⟨hexec, hb, hown, hts, hK, hI, hA⟩ := hC
  have hap := va_apart (own := own) hts hin ty0 hty hnm hK hc
  obtain ⟨r, h9, cell, q1, q2, q3, q4⟩ := (hW.one h0 h1 he) 0 _ rfl
  have hr : r = (C, T, N) := Option.some.inj (h9.symm.trans hc)
  subst hr
  obtain ⟨hS, hfc, kC, hkC, hkind⟩ := hK.1 ci _ hc
  obtain ⟨cf, kf, fi, f, hi, hsl⟩ := hS k hk
  have hlay := hts _ (hin _ (u_in_lay hk))
  unfold u_lay at hlay
  rw [if_neg (by rw [hfin]; decide)] at hlay
  have hst := (u_facts hfc hkC (u_lays hts hin hk) hi).1
  have h6 := u_store hfc hkC hkind hlay hi hd hn hfit
  refine W.putK hexec hb (f := f) ⟨hown, hl, ⟨_, _, _, hsame _ hi⟩, hst⟩ (by rw [q2]; exact h6) q1 q3 (by rw [hsl]; exact k2_hasslot (q4 k hk)) rfl rfl hdg fun H' e1 e2 e3 => ?_
  rw [hsl] at e1 ⊢
  rw [← hE] at kk
  exact kk H' _ (hW.set hI h0 h1 ⟨_, hc, t_OB.to (V := updV (vp_V fs) k v) ⟨_, e1, q2, q3, t_set q4 hap hk v⟩ (fun j _ => vp_updV_set hlen v j)⟩ e3) (hS0.put e2 e3 (hA t i h0 h1))
-- arrays: read
theorem r_iald (hC : CX p c cc s m args own Ts Dg cA cnt ad A) (hW : WP Dg cnt ad E H) {t : Nat} {i : Int} (h0 : 0 ≤ i) (h1 : i < cnt t) {n : Nat} {g : Int → Int} (he : E t i = .inl (cA 1, n, .inl (fun j => zi (g (j : Int))))) (hn : n < 2147483648) {x : Int} (hx : 0 ≤ x ∧ x < n) (hdg : decode cc pc = .ok (.iaload, 1))
    (kk : W p l e R s m args below meth c H locs cells slots Q (F0 m (pc + 1) ls (.int (zi (g x)) :: rest))) : W p l e R s m args below meth c H locs cells slots Q (F0 m pc ls (.int (zi x) :: .ref (ad t i) :: rest)) :=
  va_iald (D := Dg) hC.1 hC.2.1 hC.2.2.2.2.1 (hW.one h0 h1 he) 0 1 rfl rfl (zi_in hx.1 hx.2 hn) hdg (by rw [zi_cl hx.1 (by omega)]; rw [Int.toNat_of_nonneg hx.1]; exact kk)
theorem r_zald (hC : CX p c cc s m args own Ts Dg cA cnt ad A) (hW : WP Dg cnt ad E H) {t : Nat} {i : Int} (h0 : 0 ≤ i) (h1 : i < cnt t) {n : Nat} {g : Int → Int} (he : E t i = .inl (cA 2, n, .inl (fun j => zi (g (j : Int))))) (hn : n < 2147483648) {x : Int} (hx : 0 ≤ x ∧ x < n) (hdg : decode cc pc = .ok (.baload, 1))
    (kk : W p l e R s m args below meth c H locs cells slots Q (F0 m (pc + 1) ls (.int (zi (g x)) :: rest))) : W p l e R s m args below meth c H locs cells slots Q (F0 m pc ls (.int (zi x) :: .ref (ad t i) :: rest)) :=
  va_zald (D := Dg) hC.1 hC.2.1 hC.2.2.2.2.1 (hW.one h0 h1 he) 0 2 rfl rfl (zi_in hx.1 hx.2 hn) hdg (by rw [zi_cl hx.1 (by omega)]; rw [Int.toNat_of_nonneg hx.1]; exact kk)
theorem r_cald (hC : CX p c cc s m args own Ts Dg cA cnt ad A) (hW : WP Dg cnt ad E H) {t : Nat} {i : Int} (h0 : 0 ≤ i) (h1 : i < cnt t) {n : Nat} {g : Int → Int} (he : E t i = .inl (cA 0, n, .inl (fun j => zi (g (j : Int))))) (hn : n < 2147483648) {x : Int} (hx : 0 ≤ x ∧ x < n) (hdg : decode cc pc = .ok (.caload, 1))
    (kk : W p l e R s m args below meth c H locs cells slots Q (F0 m (pc + 1) ls (.int (zi (g x)) :: rest))) : W p l e R s m args below meth c H locs cells slots Q (F0 m pc ls (.int (zi x) :: .ref (ad t i) :: rest)) :=
  va_cald (D := Dg) hC.1 hC.2.1 hC.2.2.2.2.1 (hW.one h0 h1 he) 0 0 rfl rfl (zi_in hx.1 hx.2 hn) hdg (by rw [zi_cl hx.1 (by omega)]; rw [Int.toNat_of_nonneg hx.1]; exact kk)
theorem r_aald (hC : CX p c cc s m args own Ts Dg cA cnt ad A) (hW : WP Dg cnt ad E H) {t : Nat} {i : Int} (h0 : 0 ≤ i) (h1 : i < cnt t) {n ty : Nat} {C : String} (hty : (tyL cA)[ty]? = some (cA ty, .object C)) {g : Int → Nat} (he : E t i = .inl (cA ty, n, .inr (.inr (.inr (.inr (fun j => some (g (j : Int)))))))) (hn : n < 2147483648) {x : Int} (hx : 0 ≤ x ∧ x < n) (hdg : decode cc pc = .ok (.aaload, 1))
    (kk : W p l e R s m args below meth c H locs cells slots Q (F0 m (pc + 1) ls (.ref (g x) :: rest))) : W p l e R s m args below meth c H locs cells slots Q (F0 m pc ls (.int (zi x) :: .ref (ad t i) :: rest)) :=
  va_aldq (D := Dg) hC.1 hC.2.1 hC.2.2.2.2.1 (hW.one h0 h1 he) 0 ty rfl hty (zi_in hx.1 hx.2 hn) hdg (by rw [zi_cl hx.1 (by omega)]; rw [Int.toNat_of_nonneg hx.1]; exact kk)
-- arrays: write
theorem arrV_congr {c : ClassId} {n : Nat} {f g : Nat → Value} (h : ∀ j : Nat, j < n → f j = g j) : arrV c n f = arrV c n g := by
  unfold arrV
  congr 1
  congr 1
  funext j
  exact h j.val j.isLt
theorem upd_zi {g g' : Int → Int} {x y : Int} {n : Nat} (hx : 0 ≤ x ∧ x < n) (hn : n < 2147483648) (hg : ∀ j : Int, 0 ≤ j → j < n → g' j = if j = x then y else g j) (j : Nat) (hj : j < n) : updV (fun j => .int (zi (g (j : Int)))) (zi x).toNatClampNeg (.int (zi y)) j = .int (zi (g' (j : Int))) := by
  rw [zi_cl hx.1 (by omega)]
  unfold updV
  rw [hg (j : Int) (by omega) (by omega)]
  by_cases h : j = x.toNat
  · rw [if_pos h, if_pos (by omega)]
  · rw [if_neg h, if_neg (by omega)]
theorem r_iast (hC : CX p c cc s m args own Ts Dg cA cnt ad A) (hW : WP Dg cnt ad E H) (hS0 : va_S A H0 H locs) {t : Nat} {i : Int} (h0 : 0 ≤ i) (h1 : i < cnt t) {n : Nat} {g : Int → Int} (g' : Int → Int) (he : E t i = .inl (cA 1, n, .inl (fun j => zi (g (j : Int))))) (hn : n < 2147483648) {x y : Int} (hx : 0 ≤ x ∧ x < n) (hg : ∀ j : Int, 0 ≤ j → j < n → g' j = if j = x then y else g j) (hE : upE E t i (.inl (cA 1, n, .inl (fun j => zi (g' (j : Int))))) = E') (hdg : decode cc pc = .ok (.iastore, 1))
    (kk : ∀ (H1 : Heap) (locs1 : List Loc), WP Dg cnt ad E' H1 → va_S A H0 H1 locs1 → W p l e R s m args below meth c H1 locs1 cells slots Q (F0 m (pc + 1) ls rest)) : W p l e R s m args below meth c H locs cells slots Q (F0 m pc ls (.int (zi y) :: .int (zi x) :: .ref (ad t i) :: rest)) := by
  obtain ⟨hexec, hb, hown, hts, hK, hI, hA⟩ := hC
  refine W.iast hexec hb ((hW.one h0 h1 he) 0 _ rfl) ((hK.2 1 _ rfl).1 n (fun j => .int (zi (g (j : Int))))) (fun q => by cases q) (by show ¬ (zi x < 0 ∨ (arrV _ _ _).slots.size ≤ _); rw [arrV_size]; exact zi_in hx.1 hx.2 hn) rfl rfl hdg fun H1 e9 z oq => ?_
  rw [← hE] at kk
  refine kk H1 _ (hW.set hI h0 h1 ?_ oq) (hS0.put z oq (hA t i h0 h1))
  show H1[ad t i]? = some (vp_cell _ _)
  rw [e9]
  rw [vp_cell_i, vp_cell_i, arrV_store]
  congr 1
  exact arrV_congr (fun j hj => upd_zi hx hn hg j hj)
theorem nar_z {y : Int} (h : y = 0 ∨ y = 1) : vp_nar .boolean (zi y) = zi y := by
  rcases h with rfl | rfl <;> decide
theorem r_zast (hC : CX p c cc s m args own Ts Dg cA cnt ad A) (hW : WP Dg cnt ad E H) (hS0 : va_S A H0 H locs) {t : Nat} {i : Int} (h0 : 0 ≤ i) (h1 : i < cnt t) {n : Nat} {g : Int → Int} (g' : Int → Int) (he : E t i = .inl (cA 2, n, .inl (fun j => zi (g (j : Int))))) (hn : n < 2147483648) {x y : Int} (hy : y = 0 ∨ y = 1) (hx : 0 ≤ x ∧ x < n) (hg : ∀ j : Int, 0 ≤ j → j < n → g' j = if j = x then y else g j) (hE : upE E t i (.inl (cA 2, n, .inl (fun j => zi (g' (j : Int))))) = E') (hdg : decode cc pc = .ok (.bastore, 1))
    (kk : ∀ (H1 : Heap) (locs1 : List Loc), WP Dg cnt ad E' H1 → va_S A H0 H1 locs1 → W p l e R s m args below meth c H1 locs1 cells slots Q (F0 m (pc + 1) ls rest)) : W p l e R s m args below meth c H locs cells slots Q (F0 m pc ls (.int (zi y) :: .int (zi x) :: .ref (ad t i) :: rest)) := by
  obtain ⟨hexec, hb, hown, hts, hK, hI, hA⟩ := hC
  refine W.zast hexec hb ((hW.one h0 h1 he) 0 _ rfl) ((hK.2 2 _ rfl).1 n (fun j => .int (zi (g (j : Int))))) (fun q => by cases q) (by show ¬ (zi x < 0 ∨ (arrV _ _ _).slots.size ≤ _); rw [arrV_size]; exact zi_in hx.1 hx.2 hn) rfl rfl hdg fun H1 e9 z oq => ?_
  rw [← hE] at kk
  refine kk H1 _ (hW.set hI h0 h1 ?_ oq) (hS0.put z oq (hA t i h0 h1))
  show H1[ad t i]? = some (vp_cell _ _)
  rw [e9]
  rw [vp_cell_i, vp_cell_i, arrV_store]
  congr 1
  have hnar : ∀ v : Value, v = .int (zi y) → narrow .boolean v = v := fun v hv => by subst hv; rcases hy with rfl | rfl <;> decide
  refine arrV_congr (fun j hj => ?_)
  rw [← upd_zi hx hn hg j hj]
  congr 1
  exact hnar _ rfl
theorem nar_c : ∀ n, n < 65536 → narrow .char (.int (nI n)) = .int (nI n) := fun n h => (pk_charN h).1
theorem zi_nI {y : Int} (h : 0 ≤ y) : zi y = nI y.toNat := by
  unfold zi nI
  rw [← Int32.ofInt_eq_ofNat, Int.toNat_of_nonneg h]
theorem r_cast (hC : CX p c cc s m args own Ts Dg cA cnt ad A) (hW : WP Dg cnt ad E H) (hS0 : va_S A H0 H locs) {t : Nat} {i : Int} (h0 : 0 ≤ i) (h1 : i < cnt t) {n : Nat} {g : Int → Int} (g' : Int → Int) (he : E t i = .inl (cA 0, n, .inl (fun j => zi (g (j : Int))))) (hn : n < 2147483648) {x y : Int} (hy : 0 ≤ y ∧ y < 65536) (hx : 0 ≤ x ∧ x < n) (hg : ∀ j : Int, 0 ≤ j → j < n → g' j = if j = x then y else g j) (hE : upE E t i (.inl (cA 0, n, .inl (fun j => zi (g' (j : Int))))) = E') (hdg : decode cc pc = .ok (.castore, 1))
    (kk : ∀ (H1 : Heap) (locs1 : List Loc), WP Dg cnt ad E' H1 → va_S A H0 H1 locs1 → W p l e R s m args below meth c H1 locs1 cells slots Q (F0 m (pc + 1) ls rest)) : W p l e R s m args below meth c H locs cells slots Q (F0 m pc ls (.int (zi y) :: .int (zi x) :: .ref (ad t i) :: rest)) := by
  obtain ⟨hexec, hb, hown, hts, hK, hI, hA⟩ := hC
  refine W.cast hexec hb ((hW.one h0 h1 he) 0 _ rfl) ((hK.2 0 _ rfl).1 n (fun j => .int (zi (g (j : Int))))) (fun q => by cases q) (by show ¬ (zi x < 0 ∨ (arrV _ _ _).slots.size ≤ _); rw [arrV_size]; exact zi_in hx.1 hx.2 hn) rfl rfl hdg fun H1 e9 z oq => ?_
  rw [← hE] at kk
  refine kk H1 _ (hW.set hI h0 h1 ?_ oq) (hS0.put z oq (hA t i h0 h1))
  show H1[ad t i]? = some (vp_cell _ _)
  rw [e9]
  rw [vp_cell_i, vp_cell_i, arrV_store]
  congr 1
  have hnar : narrow .char (.int (zi y)) = .int (zi y) := by rw [zi_nI hy.1]; exact nar_c _ (by omega)
  refine arrV_congr (fun j hj => ?_)
  rw [← upd_zi hx hn hg j hj]
  congr 1
end BASE1
end
section
section WORLD
def ccnt : Nat → Int := fun t => match t with
  | 0 => 1
  | 1 => 1
  | 2 => 1
  | 3 => 1
  | 4 => 1
  | 5 => 1
  | 6 => 32
  | 7 => 32
  | 8 => 32
  | 9 => 6
  | 10 => 6
  | 11 => 6
  | 12 => 6
  | 13 => 6
  | 14 => 10
  | 15 => 10
  | 16 => 10
  | 17 => 10
  | 18 => 12
  | 19 => 12
  | _ => 0
/-- the cells of the first object, read off the numbers -/
def cE (cA : Nat → ClassId) (ad : Nat → Int → Nat) (σ : St) : Nat → Int → va_E := fun t i => match t with
  | 0 => .inr (8, [.ref (ad 1 0), .ref (ad 2 0), .ref (ad 3 0), .ref (ad 4 0), .ref (ad 5 0), .int (zi (σ 26 0 0)), .int (zi (σ 27 0 0)), .int (zi (σ 28 0 0)), .long (zl (σ 29 0 0))])
  | 1 => .inl (cA 3, 8, .inr (.inr (.inr (.inr (fun j => some (ad 6 (j : Int)))))))
  | 2 => .inl (cA 4, 6, .inr (.inr (.inr (.inr (fun j => some (ad 9 (j : Int)))))))
  | 3 => .inl (cA 5, 6, .inr (.inr (.inr (.inr (fun j => some (ad 10 (j : Int)))))))
  | 4 => .inl (cA 6, 6, .inr (.inr (.inr (.inr (fun j => some (ad 13 (j : Int)))))))
  | 5 => .inl (cA 7, 10, .inr (.inr (.inr (.inr (fun j => some (ad 14 (j : Int)))))))
  | 6 => .inr (6, [.ref (ad 7 i), .ref (ad 8 i), .int (zi (σ 3 i 0))])
  | 7 => .inl (cA 0, 20, .inl (fun j => zi (σ 1 i (j : Int))))
  | 8 => .inl (cA 1, 20, .inl (fun j => zi (σ 2 i (j : Int))))
  | 9 => .inr (3, [.ref (ad 18 i), .int (zi (σ 12 i 0)), .int (zi (σ 13 i 0)), .int (zi (σ 14 i 0)), .int (zi (σ 15 i 0))])
  | 10 => .inr (4, [.ref (ad 11 i), .ref (ad 12 i), .int (zi (σ 5 i 0)), .int (zi (σ 6 i 0)), .int (zi (σ 7 i 0)), .int (zi (σ 8 i 0)), .int (zi (σ 9 i 0)), .int (zi (σ 10 i 0)), .int (zi (σ 11 i 0))])
  | 11 => .inl (cA 3, 4, .inr (.inr (.inr (.inr (fun j => some (ad 6 (8 + 4 * i + (j : Int))))))))
  | 12 => .inl (cA 1, 4, .inl (fun j => zi (σ 4 i (j : Int))))
  | 13 => .inr (2, [.ref (ad 18 (6 + i)), .int (zi (σ 18 i 0))])
  | 14 => .inr (7, [.ref (ad 15 i), .ref (ad 16 i), .ref (ad 17 i), .int (zi (σ 22 i 0))])
  | 15 => .inl (cA 1, 100, .inl (fun j => zi (σ 19 i (j : Int))))
  | 16 => .inl (cA 1, 100, .inl (fun j => zi (σ 20 i (j : Int))))
  | 17 => .inl (cA 2, 100, .inl (fun j => zi (σ 21 i (j : Int))))
  | 18 => .inr (5, [.ref (ad 19 i), .int (zi (σ 17 i 0))])
  | 19 => .inl (cA 1, 6, .inl (fun j => zi (σ 16 i (j : Int))))
  | _ => .inr (0, [])
def mcnt : Nat → Int := fun t => if t ≤ 26 then 1 else 0
/-- the cells of the second -/
def mE (cA : Nat → ClassId) (ad : Nat → Int → Nat) (σ : St) : Nat → Int → va_E := fun t _ => match t with
  | 0 => .inr (9, [.ref (ad 1 0), .ref (ad 2 0), .ref (ad 3 0), .ref (ad 4 0), .ref (ad 5 0), .ref (ad 6 0), .ref (ad 7 0), .ref (ad 8 0), .ref (ad 9 0), .ref (ad 10 0), .ref (ad 11 0), .ref (ad 12 0), .ref (ad 13 0), .ref (ad 14 0), .ref (ad 15 0), .ref (ad 16 0), .ref (ad 17 0), .ref (ad 18 0), .ref (ad 19 0), .ref (ad 20 0), .ref (ad 21 0), .ref (ad 22 0), .ref (ad 23 0), .ref (ad 24 0), .ref (ad 25 0), .ref (ad 26 0), .int (zi (σ 26 0 0)), .int (zi (σ 27 0 0)), .int (zi (σ 28 0 0)), .int (zi (σ 30 0 0)), .int (zi (σ 31 0 0)), .long (zl (σ 29 0 0))])
  | 1 => .inl (cA 1, 8, .inl (fun j => zi (σ 3 (j : Int) 0)))
  | 2 => .inl (cA 1, 160, .inl (fun j => zi (σ 1 ((j : Int) / 20) ((j : Int) % 20))))
  | 3 => .inl (cA 1, 160, .inl (fun j => zi (σ 2 ((j : Int) / 20) ((j : Int) % 20))))
  | 4 => .inl (cA 1, 24, .inl (fun j => zi (σ 3 (8 + (j : Int)) 0)))
  | 5 => .inl (cA 1, 480, .inl (fun j => zi (σ 1 (8 + (j : Int) / 20) ((j : Int) % 20))))
  | 6 => .inl (cA 1, 480, .inl (fun j => zi (σ 2 (8 + (j : Int) / 20) ((j : Int) % 20))))
  | 7 => .inl (cA 1, 24, .inl (fun j => zi (σ 7 ((j : Int) / 4) ((j : Int) % 4))))
  | 8 => .inl (cA 1, 24, .inl (fun j => zi (σ 4 ((j : Int) / 4) ((j : Int) % 4))))
  | 9 => .inl (cA 2, 6, .inl (fun j => zi (σ 6 (j : Int) 0)))
  | 10 => .inl (cA 2, 6, .inl (fun j => zi (σ 12 (j : Int) 0)))
  | 11 => .inl (cA 2, 6, .inl (fun j => zi (σ 13 (j : Int) 0)))
  | 12 => .inl (cA 1, 6, .inl (fun j => zi (σ 24 (j : Int) 0)))
  | 13 => .inl (cA 1, 6, .inl (fun j => zi (σ 8 (j : Int) 0)))
  | 14 => .inl (cA 1, 6, .inl (fun j => zi (σ 9 (j : Int) 0)))
  | 15 => .inl (cA 1, 6, .inl (fun j => zi (σ 10 (j : Int) 0)))
  | 16 => .inl (cA 1, 6, .inl (fun j => zi (σ 25 (j : Int) 0)))
  | 17 => .inl (cA 1, 6, .inl (fun j => zi (σ 23 (j : Int) 0)))
  | 18 => .inl (cA 1, 6, .inl (fun j => zi (σ 15 (j : Int) 0)))
  | 19 => .inl (cA 1, 36, .inl (fun j => zi (σ 16 ((j : Int) / 6) ((j : Int) % 6))))
  | 20 => .inl (cA 1, 6, .inl (fun j => zi (σ 17 (j : Int) 0)))
  | 21 => .inl (cA 1, 6, .inl (fun j => zi (σ 18 (j : Int) 0)))
  | 22 => .inl (cA 1, 36, .inl (fun j => zi (σ 16 (6 + (j : Int) / 6) ((j : Int) % 6))))
  | 23 => .inl (cA 1, 6, .inl (fun j => zi (σ 17 (6 + (j : Int)) 0)))
  | 24 => .inl (cA 1, 1000, .inl (fun j => zi (σ 19 ((j : Int) / 100) ((j : Int) % 100))))
  | 25 => .inl (cA 1, 10, .inl (fun j => zi (σ 22 (j : Int) 0)))
  | 26 => .inl (cA 2, 1000, .inl (fun j => zi (σ 21 ((j : Int) / 100) ((j : Int) % 100))))
  | _ => .inr (0, [])
/-- the cell in which a number lies; 99: in none -/
def cow : Nat → Int → Int → Nat × Int := fun u a b => match u with
  | 1 => (7, a)
  | 2 => (8, a)
  | 3 => (6, a)
  | 4 => (12, a)
  | 5 => (10, a)
  | 6 => (10, a)
  | 7 => if b = 0 then (10, a) else (99, 0)
  | 8 => (10, a)
  | 9 => (10, a)
  | 10 => (10, a)
  | 11 => (10, a)
  | 12 => (9, a)
  | 13 => (9, a)
  | 14 => (9, a)
  | 15 => (9, a)
  | 16 => (19, a)
  | 17 => (18, a)
  | 18 => (13, a)
  | 19 => (15, a)
  | 20 => (16, a)
  | 21 => (17, a)
  | 22 => (14, a)
  | 26 => (0, 0)
  | 27 => (0, 0)
  | 28 => (0, 0)
  | 29 => (0, 0)
  | _ => (99, 0)
def mow : Nat → Int → Nat := fun u a => match u with
  | 1 => if a < 8 then 2 else 5
  | 2 => if a < 8 then 3 else 6
  | 3 => if a < 8 then 1 else 4
  | 4 => 8
  | 6 => 9
  | 7 => 7
  | 8 => 13
  | 9 => 14
  | 10 => 15
  | 12 => 10
  | 13 => 11
  | 15 => 18
  | 16 => if a < 6 then 19 else 22
  | 17 => if a < 6 then 20 else 23
  | 18 => 21
  | 19 => 24
  | 21 => 26
  | 22 => 25
  | 23 => 17
  | 24 => 12
  | 25 => 16
  | 26 => 0
  | 27 => 0
  | 28 => 0
  | 29 => 0
  | 30 => 0
  | 31 => 0
  | _ => 99
/-- two contents of a cell that are the same to the machine -/
def veq (e e' : va_E) : Prop := e = e' ∨ ∃ (c : ClassId) (n : Nat) (f f' : Nat → Int32), e = .inl (c, n, .inl f) ∧ e' = .inl (c, n, .inl f') ∧ ∀ j : Nat, j < n → f j = f' j
theorem veq.rf {e : va_E} : veq e e := Or.inl rfl
theorem veq.symm {e e' : va_E} (h : veq e e') : veq e' e := by
  rcases h with h | ⟨c, n, f, f', h1, h2, h3⟩
  · exact Or.inl h.symm
  · exact Or.inr ⟨c, n, f', f, h2, h1, fun j hj => (h3 j hj).symm⟩
theorem veq.at {Dg : va_G} {a : Nat} {e e' : va_E} {H : Heap} (h : veq e e') (hh : va_at Dg vwCl (a, e) H) : va_at Dg vwCl (a, e') H := by
  rcases h with h | ⟨c, n, f, f', rfl, rfl, h3⟩
  · rw [← h]; exact hh
  · have h4 : H[a]? = some (vp_cell c (n, .inl f)) := hh
    show H[a]? = some (vp_cell c (n, .inl f'))
    rw [h4, vp_cell_i, vp_cell_i]
    congr 1
    exact arrV_congr (fun j hj => by rw [h3 j hj])
theorem WP.conv {Dg : va_G} {cnt : Nat → Int} {ad : Nat → Int → Nat} {E E' : Nat → Int → va_E} {H : Heap} (h : WP Dg cnt ad E H) (hv : ∀ (t : Nat) (i : Int), 0 ≤ i → i < cnt t → veq (E t i) (E' t i)) : WP Dg cnt ad E' H := fun t i h0 h1 => (hv t i h0 h1).at (h t i h0 h1)
theorem ccnt_lt {t : Nat} {i : Int} (h0 : 0 ≤ i) (h1 : i < ccnt t) : t < 20 := by
  rcases Nat.lt_or_ge t 20 with h | h
  · exact h
  · exfalso
    obtain ⟨k, rfl⟩ : ∃ k, t = k + 20 := ⟨t - 20, by omega⟩
    have h2 : i < 0 := h1
    omega
theorem mcnt_lt {t : Nat} {i : Int} (h0 : 0 ≤ i) (h1 : i < mcnt t) : t < 27 ∧ i = 0 := by
  unfold mcnt at h1
  split at h1 <;> omega
/-- a cell speaks of its own numbers alone -/
theorem cE_dep (cA : Nat → ClassId) (ad : Nat → Int → Nat) {σ σ' : St} {t : Nat} {i : Int} (h0 : 0 ≤ i) (h1 : i < ccnt t) (h : ∀ (u : Nat) (a b : Int), cow u a b = (t, i) → σ u a b = σ' u a b) : veq (cE cA ad σ t i) (cE cA ad σ' t i) := by
  have ht := ccnt_lt h0 h1
  rcases (show t = 0 ∨ t = 1 ∨ t = 2 ∨ t = 3 ∨ t = 4 ∨ t = 5 ∨ t = 6 ∨ t = 7 ∨ t = 8 ∨ t = 9 ∨ t = 10 ∨ t = 11 ∨ t = 12 ∨ t = 13 ∨ t = 14 ∨ t = 15 ∨ t = 16 ∨ t = 17 ∨ t = 18 ∨ t = 19 by omega) with rfl | rfl | rfl | rfl | rfl | rfl | rfl | rfl | rfl | rfl | rfl | rfl | rfl | rfl | rfl | rfl | rfl | rfl | rfl | rfl
  · have hi : i = 0 := by have h2 : i < 1 := h1; omega
    subst hi
    refine Or.inl ?_
    simp only [cE, h 26 0 0 rfl, h 27 0 0 rfl, h 28 0 0 rfl, h 29 0 0 rfl]
  · exact Or.inl rfl
  · exact Or.inl rfl
  · exact Or.inl rfl
  · exact Or.inl rfl
  · exact Or.inl rfl
  · refine Or.inl ?_
    simp only [cE, h 3 i 0 rfl]
  · exact Or.inr ⟨_, _, _, _, rfl, rfl, fun j _ => by rw [h 1 i (j : Int) rfl]⟩
  · exact Or.inr ⟨_, _, _, _, rfl, rfl, fun j _ => by rw [h 2 i (j : Int) rfl]⟩
  · refine Or.inl ?_
    simp only [cE, h 12 i 0 rfl, h 13 i 0 rfl, h 14 i 0 rfl, h 15 i 0 rfl]
  · refine Or.inl ?_
    simp only [cE, h 5 i 0 rfl, h 6 i 0 rfl, h 7 i 0 rfl, h 8 i 0 rfl, h 9 i 0 rfl, h 10 i 0 rfl, h 11 i 0 rfl]
  · exact Or.inl rfl
  · exact Or.inr ⟨_, _, _, _, rfl, rfl, fun j _ => by rw [h 4 i (j : Int) rfl]⟩
  · refine Or.inl ?_
    simp only [cE, h 18 i 0 rfl]
  · refine Or.inl ?_
    simp only [cE, h 22 i 0 rfl]
  · exact Or.inr ⟨_, _, _, _, rfl, rfl, fun j _ => by rw [h 19 i (j : Int) rfl]⟩
  · exact Or.inr ⟨_, _, _, _, rfl, rfl, fun j _ => by rw [h 20 i (j : Int) rfl]⟩
  · exact Or.inr ⟨_, _, _, _, rfl, rfl, fun j _ => by rw [h 21 i (j : Int) rfl]⟩
  · refine Or.inl ?_
    simp only [cE, h 17 i 0 rfl]
  · exact Or.inr ⟨_, _, _, _, rfl, rfl, fun j _ => by rw [h 16 i (j : Int) rfl]⟩
theorem mE_dep (cA : Nat → ClassId) (ad : Nat → Int → Nat) {σ σ' : St} {t : Nat} {i : Int} (h0 : 0 ≤ i) (h1 : i < mcnt t) (h : ∀ (u : Nat) (a b : Int), mow u a = t → σ u a b = σ' u a b) : veq (mE cA ad σ t i) (mE cA ad σ' t i) := by
  obtain ⟨ht, rfl⟩ := mcnt_lt h0 h1
  rcases (show t = 0 ∨ t = 1 ∨ t = 2 ∨ t = 3 ∨ t = 4 ∨ t = 5 ∨ t = 6 ∨ t = 7 ∨ t = 8 ∨ t = 9 ∨ t = 10 ∨ t = 11 ∨ t = 12 ∨ t = 13 ∨ t = 14 ∨ t = 15 ∨ t = 16 ∨ t = 17 ∨ t = 18 ∨ t = 19 ∨ t = 20 ∨ t = 21 ∨ t = 22 ∨ t = 23 ∨ t = 24 ∨ t = 25 ∨ t = 26 by omega) with rfl | rfl | rfl | rfl | rfl | rfl | rfl | rfl | rfl | rfl | rfl | rfl | rfl | rfl | rfl | rfl | rfl | rfl | rfl | rfl | rfl | rfl | rfl | rfl | rfl | rfl | rfl
  · refine Or.inl ?_
    simp only [mE, h 26 0 0 rfl, h 27 0 0 rfl, h 28 0 0 rfl, h 30 0 0 rfl, h 31 0 0 rfl, h 29 0 0 rfl]
  · exact Or.inr ⟨_, _, _, _, rfl, rfl, fun j hj => by rw [h 3 (j : Int) 0 (by first | rfl | (simp only [mow]; rw [if_pos (by omega)]) | (simp only [mow]; rw [if_neg (by omega)]))]⟩
  · exact Or.inr ⟨_, _, _, _, rfl, rfl, fun j hj => by rw [h 1 ((j : Int) / 20) ((j : Int) % 20) (by first | rfl | (simp only [mow]; rw [if_pos (by omega)]) | (simp only [mow]; rw [if_neg (by omega)]))]⟩
  · exact Or.inr ⟨_, _, _, _, rfl, rfl, fun j hj => by rw [h 2 ((j : Int) / 20) ((j : Int) % 20) (by first | rfl | (simp only [mow]; rw [if_pos (by omega)]) | (simp only [mow]; rw [if_neg (by omega)]))]⟩
  · exact Or.inr ⟨_, _, _, _, rfl, rfl, fun j hj => by rw [h 3 (8 + (j : Int)) 0 (by first | rfl | (simp only [mow]; rw [if_pos (by omega)]) | (simp only [mow]; rw [if_neg (by omega)]))]⟩
  · exact Or.inr ⟨_, _, _, _, rfl, rfl, fun j hj => by rw [h 1 (8 + (j : Int) / 20) ((j : Int) % 20) (by first | rfl | (simp only [mow]; rw [if_pos (by omega)]) | (simp only [mow]; rw [if_neg (by omega)]))]⟩
  · exact Or.inr ⟨_, _, _, _, rfl, rfl, fun j hj => by rw [h 2 (8 + (j : Int) / 20) ((j : Int) % 20) (by first | rfl | (simp only [mow]; rw [if_pos (by omega)]) | (simp only [mow]; rw [if_neg (by omega)]))]⟩
  · exact Or.inr ⟨_, _, _, _, rfl, rfl, fun j hj => by rw [h 7 ((j : Int) / 4) ((j : Int) % 4) (by first | rfl | (simp only [mow]; rw [if_pos (by omega)]) | (simp only [mow]; rw [if_neg (by omega)]))]⟩
  · exact Or.inr ⟨_, _, _, _, rfl, rfl, fun j hj => by rw [h 4 ((j : Int) / 4) ((j : Int) % 4) (by first | rfl | (simp only [mow]; rw [if_pos (by omega)]) | (simp only [mow]; rw [if_neg (by omega)]))]⟩
  · exact Or.inr ⟨_, _, _, _, rfl, rfl, fun j hj => by rw [h 6 (j : Int) 0 (by first | rfl | (simp only [mow]; rw [if_pos (by omega)]) | (simp only [mow]; rw [if_neg (by omega)]))]⟩
  · exact Or.inr ⟨_, _, _, _, rfl, rfl, fun j hj => by rw [h 12 (j : Int) 0 (by first | rfl | (simp only [mow]; rw [if_pos (by omega)]) | (simp only [mow]; rw [if_neg (by omega)]))]⟩
  · exact Or.inr ⟨_, _, _, _, rfl, rfl, fun j hj => by rw [h 13 (j : Int) 0 (by first | rfl | (simp only [mow]; rw [if_pos (by omega)]) | (simp only [mow]; rw [if_neg (by omega)]))]⟩
  · exact Or.inr ⟨_, _, _, _, rfl, rfl, fun j hj => by rw [h 24 (j : Int) 0 (by first | rfl | (simp only [mow]; rw [if_pos (by omega)]) | (simp only [mow]; rw [if_neg (by omega)]))]⟩
  · exact Or.inr ⟨_, _, _, _, rfl, rfl, fun j hj => by rw [h 8 (j : Int) 0 (by first | rfl | (simp only [mow]; rw [if_pos (by omega)]) | (simp only [mow]; rw [if_neg (by omega)]))]⟩
  · exact Or.inr ⟨_, _, _, _, rfl, rfl, fun j hj => by rw [h 9 (j : Int) 0 (by first | rfl | (simp only [mow]; rw [if_pos (by omega)]) | (simp only [mow]; rw [if_neg (by omega)]))]⟩
  · exact Or.inr ⟨_, _, _, _, rfl, rfl, fun j hj => by rw [h 10 (j : Int) 0 (by first | rfl | (simp only [mow]; rw [if_pos (by omega)]) | (simp only [mow]; rw [if_neg (by omega)]))]⟩
  · exact Or.inr ⟨_, _, _, _, rfl, rfl, fun j hj => by rw [h 25 (j : Int) 0 (by first | rfl | (simp only [mow]; rw [if_pos (by omega)]) | (simp only [mow]; rw [if_neg (by omega)]))]⟩
  · exact Or.inr ⟨_, _, _, _, rfl, rfl, fun j hj => by rw [h 23 (j : Int) 0 (by first | rfl | (simp only [mow]; rw [if_pos (by omega)]) | (simp only [mow]; rw [if_neg (by omega)]))]⟩
  · exact Or.inr ⟨_, _, _, _, rfl, rfl, fun j hj => by rw [h 15 (j : Int) 0 (by first | rfl | (simp only [mow]; rw [if_pos (by omega)]) | (simp only [mow]; rw [if_neg (by omega)]))]⟩
  · exact Or.inr ⟨_, _, _, _, rfl, rfl, fun j hj => by rw [h 16 ((j : Int) / 6) ((j : Int) % 6) (by first | rfl | (simp only [mow]; rw [if_pos (by omega)]) | (simp only [mow]; rw [if_neg (by omega)]))]⟩
  · exact Or.inr ⟨_, _, _, _, rfl, rfl, fun j hj => by rw [h 17 (j : Int) 0 (by first | rfl | (simp only [mow]; rw [if_pos (by omega)]) | (simp only [mow]; rw [if_neg (by omega)]))]⟩
  · exact Or.inr ⟨_, _, _, _, rfl, rfl, fun j hj => by rw [h 18 (j : Int) 0 (by first | rfl | (simp only [mow]; rw [if_pos (by omega)]) | (simp only [mow]; rw [if_neg (by omega)]))]⟩
  · exact Or.inr ⟨_, _, _, _, rfl, rfl, fun j hj => by rw [h 16 (6 + (j : Int) / 6) ((j : Int) % 6) (by first | rfl | (simp only [mow]; rw [if_pos (by omega)]) | (simp only [mow]; rw [if_neg (by omega)]))]⟩
  · exact Or.inr ⟨_, _, _, _, rfl, rfl, fun j hj => by rw [h 17 (6 + (j : Int)) 0 (by first | rfl | (simp only [mow]; rw [if_pos (by omega)]) | (simp only [mow]; rw [if_neg (by omega)]))]⟩
  · exact Or.inr ⟨_, _, _, _, rfl, rfl, fun j hj => by rw [h 19 ((j : Int) / 100) ((j : Int) % 100) (by first | rfl | (simp only [mow]; rw [if_pos (by omega)]) | (simp only [mow]; rw [if_neg (by omega)]))]⟩
  · exact Or.inr ⟨_, _, _, _, rfl, rfl, fun j hj => by rw [h 22 (j : Int) 0 (by first | rfl | (simp only [mow]; rw [if_pos (by omega)]) | (simp only [mow]; rw [if_neg (by omega)]))]⟩
  · exact Or.inr ⟨_, _, _, _, rfl, rfl, fun j hj => by rw [h 21 ((j : Int) / 100) ((j : Int) % 100) (by first | rfl | (simp only [mow]; rw [if_pos (by omega)]) | (simp only [mow]; rw [if_neg (by omega)]))]⟩
/-- one number written -/
theorem cE_ups {Dg : va_G} {cA : Nat → ClassId} {ad : Nat → Int → Nat} {σ : St} {H : Heap} {T : Nat} {I : Int} {e : va_E} (t : Nat) (x y v : Int) (ho : cow t x y = (T, I)) (hn : veq e (cE cA ad (ups σ t x y v) T I)) (h : WP Dg ccnt ad (upE (cE cA ad σ) T I e) H) : WP Dg ccnt ad (cE cA ad (ups σ t x y v)) H := by
  refine h.conv (fun t' i' h0 h1 => ?_)
  unfold upE
  by_cases hx : t' = T ∧ i' = I
  · obtain ⟨rfl, rfl⟩ := hx
    rw [if_pos ⟨rfl, rfl⟩]
    exact hn
  · rw [if_neg hx]
    refine cE_dep cA ad h0 h1 (fun u a b hu => ?_)
    unfold ups
    rw [if_neg]
    rintro ⟨rfl, rfl, rfl⟩
    rw [ho] at hu
    cases hu
    exact hx ⟨rfl, rfl⟩
theorem mE_ups {Dg : va_G} {cA : Nat → ClassId} {ad : Nat → Int → Nat} {σ : St} {H : Heap} {T : Nat} {e : va_E} (t : Nat) (x y v : Int) (ho : mow t x = T) (hn : veq e (mE cA ad (ups σ t x y v) T 0)) (h : WP Dg mcnt ad (upE (mE cA ad σ) T 0 e) H) : WP Dg mcnt ad (mE cA ad (ups σ t x y v)) H := by
  refine h.conv (fun t' i' h0 h1 => ?_)
  have hi := (mcnt_lt h0 h1).2
  subst hi
  unfold upE
  by_cases hx : t' = T
  · subst hx
    rw [if_pos ⟨rfl, rfl⟩]
    exact hn
  · rw [if_neg (fun z => hx z.1)]
    refine mE_dep cA ad h0 h1 (fun u a b hu => ?_)
    unfold ups
    rw [if_neg]
    rintro ⟨rfl, rfl, rfl⟩
    exact hx (hu.symm.trans ho)
/-- worlds of numbers that agree where cells speak of them -/
theorem cE_same {Dg : va_G} {cA : Nat → ClassId} {ad : Nat → Int → Nat} {σ σ' : St} {H : Heap} (h : WP Dg ccnt ad (cE cA ad σ) H) (hs : ∀ (u : Nat) (a b : Int), (cow u a b).1 ≠ 99 → σ u a b = σ' u a b) : WP Dg ccnt ad (cE cA ad σ') H :=
  h.conv (fun t i h0 h1 => cE_dep cA ad h0 h1 (fun u a b hu => hs u a b (by rw [hu]; exact fun z => by have := ccnt_lt h0 h1; have z : t = 99 := z; omega)))
theorem mE_same {Dg : va_G} {cA : Nat → ClassId} {ad : Nat → Int → Nat} {σ σ' : St} {H : Heap} (h : WP Dg mcnt ad (mE cA ad σ) H) (hs : ∀ (u : Nat) (a b : Int), mow u a ≠ 99 → σ u a b = σ' u a b) : WP Dg mcnt ad (mE cA ad σ') H :=
  h.conv (fun t i h0 h1 => mE_dep cA ad h0 h1 (fun u a b hu => hs u a b (by rw [hu]; exact fun z => by have := (mcnt_lt h0 h1).1; omega)))
end WORLD
section FIELDROWS
variable {p : Program} {l : Launch} {e : Env} {R : Room} {s : State} {m : MethodId} {args : Array Value} {below : List Frame} {meth : Method} {c : Code} {H H0 : Heap} {locs : List Loc} {cells slots : Nat} {Q : State → Prop} {cc : ByteArray} {pc index : Nat} {ls : Array Slot} {rest : List Value} {own : String} {Ts : List Cond} {Dg : va_G} {cA : Nat → ClassId} {ad : Nat → Int → Nat} {A : Nat → Prop} {σ : St}
theorem cg_KR_reels (hC : CX p c cc s m args own Ts Dg cA ccnt ad A) (hW : WP Dg ccnt ad (cE cA ad σ) H) (hin : ∀ w ∈ wsX70, w ∈ Ts) (hl : (Cond.fieldLink own index "KioskReel" "reels" "[LKioskReel$Reel;").before args s = true) (hdg : decode cc pc = .ok (.getfield index, 3)) (kk : W p l e R s m args below meth c H locs cells slots Q (F0 m (pc + 3) ls (.ref (ad 1 0) :: rest))) : W p l e R s m args below meth c H locs cells slots Q (F0 m pc ls (.ref (ad 0 0) :: rest)) :=
  r_get (N := 9) (ci := 8) (T := TX7) (C := RX7) hC hW hin rfl 0 (by decide) hl (fun _ h => h) (by decide) (by decide) rfl rfl hdg kk
theorem cg_KR_kiosks (hC : CX p c cc s m args own Ts Dg cA ccnt ad A) (hW : WP Dg ccnt ad (cE cA ad σ) H) (hin : ∀ w ∈ wsX70, w ∈ Ts) (hl : (Cond.fieldLink own index "KioskReel" "kiosks" "[LKioskReel$Kiosk;").before args s = true) (hdg : decode cc pc = .ok (.getfield index, 3)) (kk : W p l e R s m args below meth c H locs cells slots Q (F0 m (pc + 3) ls (.ref (ad 2 0) :: rest))) : W p l e R s m args below meth c H locs cells slots Q (F0 m pc ls (.ref (ad 0 0) :: rest)) :=
  r_get (N := 9) (ci := 8) (T := TX7) (C := RX7) hC hW hin rfl 1 (by decide) hl (fun _ h => h) (by decide) (by decide) rfl rfl hdg kk
theorem cg_KR_players (hC : CX p c cc s m args own Ts Dg cA ccnt ad A) (hW : WP Dg ccnt ad (cE cA ad σ) H) (hin : ∀ w ∈ wsX70, w ∈ Ts) (hl : (Cond.fieldLink own index "KioskReel" "players" "[LKioskReel$Player;").before args s = true) (hdg : decode cc pc = .ok (.getfield index, 3)) (kk : W p l e R s m args below meth c H locs cells slots Q (F0 m (pc + 3) ls (.ref (ad 3 0) :: rest))) : W p l e R s m args below meth c H locs cells slots Q (F0 m pc ls (.ref (ad 0 0) :: rest)) :=
  r_get (N := 9) (ci := 8) (T := TX7) (C := RX7) hC hW hin rfl 2 (by decide) hl (fun _ h => h) (by decide) (by decide) rfl rfl hdg kk
theorem cg_KR_devices (hC : CX p c cc s m args own Ts Dg cA ccnt ad A) (hW : WP Dg ccnt ad (cE cA ad σ) H) (hin : ∀ w ∈ wsX70, w ∈ Ts) (hl : (Cond.fieldLink own index "KioskReel" "devices" "[LKioskReel$Device;").before args s = true) (hdg : decode cc pc = .ok (.getfield index, 3)) (kk : W p l e R s m args below meth c H locs cells slots Q (F0 m (pc + 3) ls (.ref (ad 4 0) :: rest))) : W p l e R s m args below meth c H locs cells slots Q (F0 m pc ls (.ref (ad 0 0) :: rest)) :=
  r_get (N := 9) (ci := 8) (T := TX7) (C := RX7) hC hW hin rfl 3 (by decide) hl (fun _ h => h) (by decide) (by decide) rfl rfl hdg kk
theorem cg_KR_visitors (hC : CX p c cc s m args own Ts Dg cA ccnt ad A) (hW : WP Dg ccnt ad (cE cA ad σ) H) (hin : ∀ w ∈ wsX70, w ∈ Ts) (hl : (Cond.fieldLink own index "KioskReel" "visitors" "[LKioskReel$Visitor;").before args s = true) (hdg : decode cc pc = .ok (.getfield index, 3)) (kk : W p l e R s m args below meth c H locs cells slots Q (F0 m (pc + 3) ls (.ref (ad 5 0) :: rest))) : W p l e R s m args below meth c H locs cells slots Q (F0 m pc ls (.ref (ad 0 0) :: rest)) :=
  r_get (N := 9) (ci := 8) (T := TX7) (C := RX7) hC hW hin rfl 4 (by decide) hl (fun _ h => h) (by decide) (by decide) rfl rfl hdg kk
theorem cg_KR_reelCount (hC : CX p c cc s m args own Ts Dg cA ccnt ad A) (hW : WP Dg ccnt ad (cE cA ad σ) H) (hin : ∀ w ∈ wsX70, w ∈ Ts) (hl : (Cond.fieldLink own index "KioskReel" "reelCount" "I").before args s = true) {v : Int} (hv : σ 26 0 0 = v) (hdg : decode cc pc = .ok (.getfield index, 3)) (kk : W p l e R s m args below meth c H locs cells slots Q (F0 m (pc + 3) ls (.int (zi v) :: rest))) : W p l e R s m args below meth c H locs cells slots Q (F0 m pc ls (.ref (ad 0 0) :: rest)) :=
  r_get (N := 9) (ci := 8) (T := TX7) (C := RX7) hC hW hin rfl 5 (by decide) hl (fun _ h => h) (by decide) (by decide) rfl rfl hdg (by rw [hv]; exact kk)
theorem cp_KR_reelCount (hC : CX p c cc s m args own Ts Dg cA ccnt ad A) (hW : WP Dg ccnt ad (cE cA ad σ) H) (hin : ∀ w ∈ wsX70, w ∈ Ts) (hl : (Cond.fieldLink own index "KioskReel" "reelCount" "I").before args s = true) (hS : va_S A H0 H locs) {v : Int} (hdg : decode cc pc = .ok (.putfield index, 3)) (kk : ∀ (H1 : Heap) (locs1 : List Loc), WP Dg ccnt ad (cE cA ad (ups σ 26 0 0 v)) H1 → va_S A H0 H1 locs1 → W p l e R s m args below meth c H1 locs1 cells slots Q (F0 m (pc + 3) ls rest)) : W p l e R s m args below meth c H locs cells slots Q (F0 m pc ls (.int (zi v) :: .ref (ad 0 0) :: rest)) :=
  r_put (N := 9) (ci := 8) (T := TX7) (C := RX7) (ty := .int) hC hW hS hin tyX7 tyX7_ok nmX7 rfl 5 (by decide) hl (fun _ h => h) rfl (by decide +kernel) rfl rfl (by decide) (by decide) rfl (Nat.le_of_ble_eq_true rfl) rfl hdg (fun H1 locs1 hW1 hS1 => kk H1 locs1 (cE_ups 26 0 0 v rfl (Or.inl (by simp only [cE, ups]; simp)) hW1) hS1)
theorem cg_KR_kioskCount (hC : CX p c cc s m args own Ts Dg cA ccnt ad A) (hW : WP Dg ccnt ad (cE cA ad σ) H) (hin : ∀ w ∈ wsX70, w ∈ Ts) (hl : (Cond.fieldLink own index "KioskReel" "kioskCount" "I").before args s = true) {v : Int} (hv : σ 27 0 0 = v) (hdg : decode cc pc = .ok (.getfield index, 3)) (kk : W p l e R s m args below meth c H locs cells slots Q (F0 m (pc + 3) ls (.int (zi v) :: rest))) : W p l e R s m args below meth c H locs cells slots Q (F0 m pc ls (.ref (ad 0 0) :: rest)) :=
  r_get (N := 9) (ci := 8) (T := TX7) (C := RX7) hC hW hin rfl 6 (by decide) hl (fun _ h => h) (by decide) (by decide) rfl rfl hdg (by rw [hv]; exact kk)
theorem cp_KR_kioskCount (hC : CX p c cc s m args own Ts Dg cA ccnt ad A) (hW : WP Dg ccnt ad (cE cA ad σ) H) (hin : ∀ w ∈ wsX70, w ∈ Ts) (hl : (Cond.fieldLink own index "KioskReel" "kioskCount" "I").before args s = true) (hS : va_S A H0 H locs) {v : Int} (hdg : decode cc pc = .ok (.putfield index, 3)) (kk : ∀ (H1 : Heap) (locs1 : List Loc), WP Dg ccnt ad (cE cA ad (ups σ 27 0 0 v)) H1 → va_S A H0 H1 locs1 → W p l e R s m args below meth c H1 locs1 cells slots Q (F0 m (pc + 3) ls rest)) : W p l e R s m args below meth c H locs cells slots Q (F0 m pc ls (.int (zi v) :: .ref (ad 0 0) :: rest)) :=
  r_put (N := 9) (ci := 8) (T := TX7) (C := RX7) (ty := .int) hC hW hS hin tyX7 tyX7_ok nmX7 rfl 6 (by decide) hl (fun _ h => h) rfl (by decide +kernel) rfl rfl (by decide) (by decide) rfl (Nat.le_of_ble_eq_true rfl) rfl hdg (fun H1 locs1 hW1 hS1 => kk H1 locs1 (cE_ups 27 0 0 v rfl (Or.inl (by simp only [cE, ups]; simp)) hW1) hS1)
theorem cg_KR_visitorCount (hC : CX p c cc s m args own Ts Dg cA ccnt ad A) (hW : WP Dg ccnt ad (cE cA ad σ) H) (hin : ∀ w ∈ wsX70, w ∈ Ts) (hl : (Cond.fieldLink own index "KioskReel" "visitorCount" "I").before args s = true) {v : Int} (hv : σ 28 0 0 = v) (hdg : decode cc pc = .ok (.getfield index, 3)) (kk : W p l e R s m args below meth c H locs cells slots Q (F0 m (pc + 3) ls (.int (zi v) :: rest))) : W p l e R s m args below meth c H locs cells slots Q (F0 m pc ls (.ref (ad 0 0) :: rest)) :=
  r_get (N := 9) (ci := 8) (T := TX7) (C := RX7) hC hW hin rfl 7 (by decide) hl (fun _ h => h) (by decide) (by decide) rfl rfl hdg (by rw [hv]; exact kk)
theorem cp_KR_visitorCount (hC : CX p c cc s m args own Ts Dg cA ccnt ad A) (hW : WP Dg ccnt ad (cE cA ad σ) H) (hin : ∀ w ∈ wsX70, w ∈ Ts) (hl : (Cond.fieldLink own index "KioskReel" "visitorCount" "I").before args s = true) (hS : va_S A H0 H locs) {v : Int} (hdg : decode cc pc = .ok (.putfield index, 3)) (kk : ∀ (H1 : Heap) (locs1 : List Loc), WP Dg ccnt ad (cE cA ad (ups σ 28 0 0 v)) H1 → va_S A H0 H1 locs1 → W p l e R s m args below meth c H1 locs1 cells slots Q (F0 m (pc + 3) ls rest)) : W p l e R s m args below meth c H locs cells slots Q (F0 m pc ls (.int (zi v) :: .ref (ad 0 0) :: rest)) :=
  r_put (N := 9) (ci := 8) (T := TX7) (C := RX7) (ty := .int) hC hW hS hin tyX7 tyX7_ok nmX7 rfl 7 (by decide) hl (fun _ h => h) rfl (by decide +kernel) rfl rfl (by decide) (by decide) rfl (Nat.le_of_ble_eq_true rfl) rfl hdg (fun H1 locs1 hW1 hS1 => kk H1 locs1 (cE_ups 28 0 0 v rfl (Or.inl (by simp only [cE, ups]; simp)) hW1) hS1)
theorem cg_KR_linesDone (hC : CX p c cc s m args own Ts Dg cA ccnt ad A) (hW : WP Dg ccnt ad (cE cA ad σ) H) (hin : ∀ w ∈ wsX70, w ∈ Ts) (hl : (Cond.fieldLink own index "KioskReel" "linesDone" "J").before args s = true) {v : Int} (hv : σ 29 0 0 = v) (hdg : decode cc pc = .ok (.getfield index, 3)) (kk : W p l e R s m args below meth c H locs cells slots Q (F0 m (pc + 3) ls (.long (zl v) :: rest))) : W p l e R s m args below meth c H locs cells slots Q (F0 m pc ls (.ref (ad 0 0) :: rest)) :=
  r_get (N := 9) (ci := 8) (T := TX7) (C := RX7) hC hW hin rfl 8 (by decide) hl (fun _ h => h) (by decide) (by decide) rfl rfl hdg (by rw [hv]; exact kk)
theorem cp_KR_linesDone (hC : CX p c cc s m args own Ts Dg cA ccnt ad A) (hW : WP Dg ccnt ad (cE cA ad σ) H) (hin : ∀ w ∈ wsX70, w ∈ Ts) (hl : (Cond.fieldLink own index "KioskReel" "linesDone" "J").before args s = true) (hS : va_S A H0 H locs) {v : Int} (hdg : decode cc pc = .ok (.putfield index, 3)) (kk : ∀ (H1 : Heap) (locs1 : List Loc), WP Dg ccnt ad (cE cA ad (ups σ 29 0 0 v)) H1 → va_S A H0 H1 locs1 → W p l e R s m args below meth c H1 locs1 cells slots Q (F0 m (pc + 3) ls rest)) : W p l e R s m args below meth c H locs cells slots Q (F0 m pc ls (.long (zl v) :: .ref (ad 0 0) :: rest)) :=
  r_put (N := 9) (ci := 8) (T := TX7) (C := RX7) (ty := .long) hC hW hS hin tyX7 tyX7_ok nmX7 rfl 8 (by decide) hl (fun _ h => h) rfl (by decide +kernel) rfl rfl (by decide) (by decide) rfl (Nat.le_of_ble_eq_true rfl) rfl hdg (fun H1 locs1 hW1 hS1 => kk H1 locs1 (cE_ups 29 0 0 v rfl (Or.inl (by simp only [cE, ups]; simp)) hW1) hS1)
theorem cg_Reel_kinds (hC : CX p c cc s m args own Ts Dg cA ccnt ad A) (hW : WP Dg ccnt ad (cE cA ad σ) H) (hin : ∀ w ∈ wsX50, w ∈ Ts) (hl : (Cond.fieldLink own index "KioskReel$Reel" "kinds" "[C").before args s = true) {i : Int} (h : 0 ≤ i ∧ i < 32) (hdg : decode cc pc = .ok (.getfield index, 3)) (kk : W p l e R s m args below meth c H locs cells slots Q (F0 m (pc + 3) ls (.ref (ad 7 i) :: rest))) : W p l e R s m args below meth c H locs cells slots Q (F0 m pc ls (.ref (ad 6 i) :: rest)) :=
  r_get (N := 3) (ci := 6) (T := TX5) (C := RX5) hC hW hin rfl 0 (by decide) hl (fun _ h => h) h.1 h.2 rfl rfl hdg kk
theorem cg_Reel_numbers (hC : CX p c cc s m args own Ts Dg cA ccnt ad A) (hW : WP Dg ccnt ad (cE cA ad σ) H) (hin : ∀ w ∈ wsX50, w ∈ Ts) (hl : (Cond.fieldLink own index "KioskReel$Reel" "numbers" "[I").before args s = true) {i : Int} (h : 0 ≤ i ∧ i < 32) (hdg : decode cc pc = .ok (.getfield index, 3)) (kk : W p l e R s m args below meth c H locs cells slots Q (F0 m (pc + 3) ls (.ref (ad 8 i) :: rest))) : W p l e R s m args below meth c H locs cells slots Q (F0 m pc ls (.ref (ad 6 i) :: rest)) :=
  r_get (N := 3) (ci := 6) (T := TX5) (C := RX5) hC hW hin rfl 1 (by decide) hl (fun _ h => h) h.1 h.2 rfl rfl hdg kk
theorem cg_Reel_size (hC : CX p c cc s m args own Ts Dg cA ccnt ad A) (hW : WP Dg ccnt ad (cE cA ad σ) H) (hin : ∀ w ∈ wsX50, w ∈ Ts) (hl : (Cond.fieldLink own index "KioskReel$Reel" "size" "I").before args s = true) {i : Int} (h : 0 ≤ i ∧ i < 32) {v : Int} (hv : σ 3 i 0 = v) (hdg : decode cc pc = .ok (.getfield index, 3)) (kk : W p l e R s m args below meth c H locs cells slots Q (F0 m (pc + 3) ls (.int (zi v) :: rest))) : W p l e R s m args below meth c H locs cells slots Q (F0 m pc ls (.ref (ad 6 i) :: rest)) :=
  r_get (N := 3) (ci := 6) (T := TX5) (C := RX5) hC hW hin rfl 2 (by decide) hl (fun _ h => h) h.1 h.2 rfl rfl hdg (by rw [hv]; exact kk)
theorem cp_Reel_size (hC : CX p c cc s m args own Ts Dg cA ccnt ad A) (hW : WP Dg ccnt ad (cE cA ad σ) H) (hin : ∀ w ∈ wsX50, w ∈ Ts) (hl : (Cond.fieldLink own index "KioskReel$Reel" "size" "I").before args s = true) {i : Int} (h : 0 ≤ i ∧ i < 32) (hS : va_S A H0 H locs) {v : Int} (hdg : decode cc pc = .ok (.putfield index, 3)) (kk : ∀ (H1 : Heap) (locs1 : List Loc), WP Dg ccnt ad (cE cA ad (ups σ 3 i 0 v)) H1 → va_S A H0 H1 locs1 → W p l e R s m args below meth c H1 locs1 cells slots Q (F0 m (pc + 3) ls rest)) : W p l e R s m args below meth c H locs cells slots Q (F0 m pc ls (.int (zi v) :: .ref (ad 6 i) :: rest)) :=
  r_put (N := 3) (ci := 6) (T := TX5) (C := RX5) (ty := .int) hC hW hS hin tyX5 tyX5_ok nmX5 rfl 2 (by decide) hl (fun _ h => h) rfl (by decide +kernel) rfl rfl h.1 h.2 rfl (Nat.le_of_ble_eq_true rfl) rfl hdg (fun H1 locs1 hW1 hS1 => kk H1 locs1 (cE_ups 3 i 0 v rfl (Or.inl (by simp only [cE, ups]; simp)) hW1) hS1)
theorem cg_Kiosk_playing (hC : CX p c cc s m args own Ts Dg cA ccnt ad A) (hW : WP Dg ccnt ad (cE cA ad σ) H) (hin : ∀ w ∈ wsX10, w ∈ Ts) (hl : (Cond.fieldLink own index "KioskReel$Kiosk" "playing" "LKioskReel$PlayerRow;").before args s = true) {i : Int} (h : 0 ≤ i ∧ i < 6) (hdg : decode cc pc = .ok (.getfield index, 3)) (kk : W p l e R s m args below meth c H locs cells slots Q (F0 m (pc + 3) ls (.ref (ad 18 i) :: rest))) : W p l e R s m args below meth c H locs cells slots Q (F0 m pc ls (.ref (ad 9 i) :: rest)) :=
  r_get (N := 5) (ci := 3) (T := TX1) (C := RX1) hC hW hin rfl 0 (by decide) hl (fun _ h => h) h.1 h.2 rfl rfl hdg kk
theorem cg_Kiosk_frozen (hC : CX p c cc s m args own Ts Dg cA ccnt ad A) (hW : WP Dg ccnt ad (cE cA ad σ) H) (hin : ∀ w ∈ wsX10, w ∈ Ts) (hl : (Cond.fieldLink own index "KioskReel$Kiosk" "frozen" "Z").before args s = true) {i : Int} (h : 0 ≤ i ∧ i < 6) {v : Int} (hv : σ 12 i 0 = v) (hdg : decode cc pc = .ok (.getfield index, 3)) (kk : W p l e R s m args below meth c H locs cells slots Q (F0 m (pc + 3) ls (.int (zi v) :: rest))) : W p l e R s m args below meth c H locs cells slots Q (F0 m pc ls (.ref (ad 9 i) :: rest)) :=
  r_get (N := 5) (ci := 3) (T := TX1) (C := RX1) hC hW hin rfl 1 (by decide) hl (fun _ h => h) h.1 h.2 rfl rfl hdg (by rw [hv]; exact kk)
theorem cp_Kiosk_frozen (hC : CX p c cc s m args own Ts Dg cA ccnt ad A) (hW : WP Dg ccnt ad (cE cA ad σ) H) (hin : ∀ w ∈ wsX10, w ∈ Ts) (hl : (Cond.fieldLink own index "KioskReel$Kiosk" "frozen" "Z").before args s = true) {i : Int} (h : 0 ≤ i ∧ i < 6) (hS : va_S A H0 H locs) {v : Int} (hv : v = 0 ∨ v = 1) (hdg : decode cc pc = .ok (.putfield index, 3)) (kk : ∀ (H1 : Heap) (locs1 : List Loc), WP Dg ccnt ad (cE cA ad (ups σ 12 i 0 v)) H1 → va_S A H0 H1 locs1 → W p l e R s m args below meth c H1 locs1 cells slots Q (F0 m (pc + 3) ls rest)) : W p l e R s m args below meth c H locs cells slots Q (F0 m pc ls (.int (zi v) :: .ref (ad 9 i) :: rest)) :=
  r_put (N := 5) (ci := 3) (T := TX1) (C := RX1) (ty := .boolean) hC hW hS hin tyX1 tyX1_ok nmX1 rfl 1 (by decide) hl (fun _ h => h) rfl (by decide +kernel) (by rcases hv with rfl | rfl <;> decide) (by rcases hv with rfl | rfl <;> decide) h.1 h.2 rfl (Nat.le_of_ble_eq_true rfl) rfl hdg (fun H1 locs1 hW1 hS1 => kk H1 locs1 (cE_ups 12 i 0 v rfl (Or.inl (by simp only [cE, ups]; simp)) hW1) hS1)
theorem cg_Kiosk_out (hC : CX p c cc s m args own Ts Dg cA ccnt ad A) (hW : WP Dg ccnt ad (cE cA ad σ) H) (hin : ∀ w ∈ wsX10, w ∈ Ts) (hl : (Cond.fieldLink own index "KioskReel$Kiosk" "out" "Z").before args s = true) {i : Int} (h : 0 ≤ i ∧ i < 6) {v : Int} (hv : σ 13 i 0 = v) (hdg : decode cc pc = .ok (.getfield index, 3)) (kk : W p l e R s m args below meth c H locs cells slots Q (F0 m (pc + 3) ls (.int (zi v) :: rest))) : W p l e R s m args below meth c H locs cells slots Q (F0 m pc ls (.ref (ad 9 i) :: rest)) :=
  r_get (N := 5) (ci := 3) (T := TX1) (C := RX1) hC hW hin rfl 2 (by decide) hl (fun _ h => h) h.1 h.2 rfl rfl hdg (by rw [hv]; exact kk)
theorem cp_Kiosk_out (hC : CX p c cc s m args own Ts Dg cA ccnt ad A) (hW : WP Dg ccnt ad (cE cA ad σ) H) (hin : ∀ w ∈ wsX10, w ∈ Ts) (hl : (Cond.fieldLink own index "KioskReel$Kiosk" "out" "Z").before args s = true) {i : Int} (h : 0 ≤ i ∧ i < 6) (hS : va_S A H0 H locs) {v : Int} (hv : v = 0 ∨ v = 1) (hdg : decode cc pc = .ok (.putfield index, 3)) (kk : ∀ (H1 : Heap) (locs1 : List Loc), WP Dg ccnt ad (cE cA ad (ups σ 13 i 0 v)) H1 → va_S A H0 H1 locs1 → W p l e R s m args below meth c H1 locs1 cells slots Q (F0 m (pc + 3) ls rest)) : W p l e R s m args below meth c H locs cells slots Q (F0 m pc ls (.int (zi v) :: .ref (ad 9 i) :: rest)) :=
  r_put (N := 5) (ci := 3) (T := TX1) (C := RX1) (ty := .boolean) hC hW hS hin tyX1 tyX1_ok nmX1 rfl 2 (by decide) hl (fun _ h => h) rfl (by decide +kernel) (by rcases hv with rfl | rfl <;> decide) (by rcases hv with rfl | rfl <;> decide) h.1 h.2 rfl (Nat.le_of_ble_eq_true rfl) rfl hdg (fun H1 locs1 hW1 hS1 => kk H1 locs1 (cE_ups 13 i 0 v rfl (Or.inl (by simp only [cE, ups]; simp)) hW1) hS1)
theorem cg_Kiosk_frozenTicks (hC : CX p c cc s m args own Ts Dg cA ccnt ad A) (hW : WP Dg ccnt ad (cE cA ad σ) H) (hin : ∀ w ∈ wsX10, w ∈ Ts) (hl : (Cond.fieldLink own index "KioskReel$Kiosk" "frozenTicks" "I").before args s = true) {i : Int} (h : 0 ≤ i ∧ i < 6) {v : Int} (hv : σ 14 i 0 = v) (hdg : decode cc pc = .ok (.getfield index, 3)) (kk : W p l e R s m args below meth c H locs cells slots Q (F0 m (pc + 3) ls (.int (zi v) :: rest))) : W p l e R s m args below meth c H locs cells slots Q (F0 m pc ls (.ref (ad 9 i) :: rest)) :=
  r_get (N := 5) (ci := 3) (T := TX1) (C := RX1) hC hW hin rfl 3 (by decide) hl (fun _ h => h) h.1 h.2 rfl rfl hdg (by rw [hv]; exact kk)
theorem cp_Kiosk_frozenTicks (hC : CX p c cc s m args own Ts Dg cA ccnt ad A) (hW : WP Dg ccnt ad (cE cA ad σ) H) (hin : ∀ w ∈ wsX10, w ∈ Ts) (hl : (Cond.fieldLink own index "KioskReel$Kiosk" "frozenTicks" "I").before args s = true) {i : Int} (h : 0 ≤ i ∧ i < 6) (hS : va_S A H0 H locs) {v : Int} (hdg : decode cc pc = .ok (.putfield index, 3)) (kk : ∀ (H1 : Heap) (locs1 : List Loc), WP Dg ccnt ad (cE cA ad (ups σ 14 i 0 v)) H1 → va_S A H0 H1 locs1 → W p l e R s m args below meth c H1 locs1 cells slots Q (F0 m (pc + 3) ls rest)) : W p l e R s m args below meth c H locs cells slots Q (F0 m pc ls (.int (zi v) :: .ref (ad 9 i) :: rest)) :=
  r_put (N := 5) (ci := 3) (T := TX1) (C := RX1) (ty := .int) hC hW hS hin tyX1 tyX1_ok nmX1 rfl 3 (by decide) hl (fun _ h => h) rfl (by decide +kernel) rfl rfl h.1 h.2 rfl (Nat.le_of_ble_eq_true rfl) rfl hdg (fun H1 locs1 hW1 hS1 => kk H1 locs1 (cE_ups 14 i 0 v rfl (Or.inl (by simp only [cE, ups]; simp)) hW1) hS1)
theorem cg_Kiosk_lastSlide (hC : CX p c cc s m args own Ts Dg cA ccnt ad A) (hW : WP Dg ccnt ad (cE cA ad σ) H) (hin : ∀ w ∈ wsX10, w ∈ Ts) (hl : (Cond.fieldLink own index "KioskReel$Kiosk" "lastSlide" "I").before args s = true) {i : Int} (h : 0 ≤ i ∧ i < 6) {v : Int} (hv : σ 15 i 0 = v) (hdg : decode cc pc = .ok (.getfield index, 3)) (kk : W p l e R s m args below meth c H locs cells slots Q (F0 m (pc + 3) ls (.int (zi v) :: rest))) : W p l e R s m args below meth c H locs cells slots Q (F0 m pc ls (.ref (ad 9 i) :: rest)) :=
  r_get (N := 5) (ci := 3) (T := TX1) (C := RX1) hC hW hin rfl 4 (by decide) hl (fun _ h => h) h.1 h.2 rfl rfl hdg (by rw [hv]; exact kk)
theorem cp_Kiosk_lastSlide (hC : CX p c cc s m args own Ts Dg cA ccnt ad A) (hW : WP Dg ccnt ad (cE cA ad σ) H) (hin : ∀ w ∈ wsX10, w ∈ Ts) (hl : (Cond.fieldLink own index "KioskReel$Kiosk" "lastSlide" "I").before args s = true) {i : Int} (h : 0 ≤ i ∧ i < 6) (hS : va_S A H0 H locs) {v : Int} (hdg : decode cc pc = .ok (.putfield index, 3)) (kk : ∀ (H1 : Heap) (locs1 : List Loc), WP Dg ccnt ad (cE cA ad (ups σ 15 i 0 v)) H1 → va_S A H0 H1 locs1 → W p l e R s m args below meth c H1 locs1 cells slots Q (F0 m (pc + 3) ls rest)) : W p l e R s m args below meth c H locs cells slots Q (F0 m pc ls (.int (zi v) :: .ref (ad 9 i) :: rest)) :=
  r_put (N := 5) (ci := 3) (T := TX1) (C := RX1) (ty := .int) hC hW hS hin tyX1 tyX1_ok nmX1 rfl 4 (by decide) hl (fun _ h => h) rfl (by decide +kernel) rfl rfl h.1 h.2 rfl (Nat.le_of_ble_eq_true rfl) rfl hdg (fun H1 locs1 hW1 hS1 => kk H1 locs1 (cE_ups 15 i 0 v rfl (Or.inl (by simp only [cE, ups]; simp)) hW1) hS1)
theorem cg_Player_pile (hC : CX p c cc s m args own Ts Dg cA ccnt ad A) (hW : WP Dg ccnt ad (cE cA ad σ) H) (hin : ∀ w ∈ wsX30, w ∈ Ts) (hl : (Cond.fieldLink own index "KioskReel$Player" "pile" "[LKioskReel$Reel;").before args s = true) {i : Int} (h : 0 ≤ i ∧ i < 6) (hdg : decode cc pc = .ok (.getfield index, 3)) (kk : W p l e R s m args below meth c H locs cells slots Q (F0 m (pc + 3) ls (.ref (ad 11 i) :: rest))) : W p l e R s m args below meth c H locs cells slots Q (F0 m pc ls (.ref (ad 10 i) :: rest)) :=
  r_get (N := 9) (ci := 4) (T := TX3) (C := RX3) hC hW hin rfl 0 (by decide) hl (fun _ h => h) h.1 h.2 rfl rfl hdg kk
theorem cg_Player_ahead (hC : CX p c cc s m args own Ts Dg cA ccnt ad A) (hW : WP Dg ccnt ad (cE cA ad σ) H) (hin : ∀ w ∈ wsX30, w ∈ Ts) (hl : (Cond.fieldLink own index "KioskReel$Player" "ahead" "[I").before args s = true) {i : Int} (h : 0 ≤ i ∧ i < 6) (hdg : decode cc pc = .ok (.getfield index, 3)) (kk : W p l e R s m args below meth c H locs cells slots Q (F0 m (pc + 3) ls (.ref (ad 12 i) :: rest))) : W p l e R s m args below meth c H locs cells slots Q (F0 m pc ls (.ref (ad 10 i) :: rest)) :=
  r_get (N := 9) (ci := 4) (T := TX3) (C := RX3) hC hW hin rfl 1 (by decide) hl (fun _ h => h) h.1 h.2 rfl rfl hdg kk
theorem cg_Player_height (hC : CX p c cc s m args own Ts Dg cA ccnt ad A) (hW : WP Dg ccnt ad (cE cA ad σ) H) (hin : ∀ w ∈ wsX30, w ∈ Ts) (hl : (Cond.fieldLink own index "KioskReel$Player" "height" "I").before args s = true) {i : Int} (h : 0 ≤ i ∧ i < 6) {v : Int} (hv : σ 5 i 0 = v) (hdg : decode cc pc = .ok (.getfield index, 3)) (kk : W p l e R s m args below meth c H locs cells slots Q (F0 m (pc + 3) ls (.int (zi v) :: rest))) : W p l e R s m args below meth c H locs cells slots Q (F0 m pc ls (.ref (ad 10 i) :: rest)) :=
  r_get (N := 9) (ci := 4) (T := TX3) (C := RX3) hC hW hin rfl 2 (by decide) hl (fun _ h => h) h.1 h.2 rfl rfl hdg (by rw [hv]; exact kk)
theorem cp_Player_height (hC : CX p c cc s m args own Ts Dg cA ccnt ad A) (hW : WP Dg ccnt ad (cE cA ad σ) H) (hin : ∀ w ∈ wsX30, w ∈ Ts) (hl : (Cond.fieldLink own index "KioskReel$Player" "height" "I").before args s = true) {i : Int} (h : 0 ≤ i ∧ i < 6) (hS : va_S A H0 H locs) {v : Int} (hdg : decode cc pc = .ok (.putfield index, 3)) (kk : ∀ (H1 : Heap) (locs1 : List Loc), WP Dg ccnt ad (cE cA ad (ups σ 5 i 0 v)) H1 → va_S A H0 H1 locs1 → W p l e R s m args below meth c H1 locs1 cells slots Q (F0 m (pc + 3) ls rest)) : W p l e R s m args below meth c H locs cells slots Q (F0 m pc ls (.int (zi v) :: .ref (ad 10 i) :: rest)) :=
  r_put (N := 9) (ci := 4) (T := TX3) (C := RX3) (ty := .int) hC hW hS hin tyX3 tyX3_ok nmX3 rfl 2 (by decide) hl (fun _ h => h) rfl (by decide +kernel) rfl rfl h.1 h.2 rfl (Nat.le_of_ble_eq_true rfl) rfl hdg (fun H1 locs1 hW1 hS1 => kk H1 locs1 (cE_ups 5 i 0 v rfl (Or.inl (by simp only [cE, ups]; simp)) hW1) hS1)
theorem cg_Player_started (hC : CX p c cc s m args own Ts Dg cA ccnt ad A) (hW : WP Dg ccnt ad (cE cA ad σ) H) (hin : ∀ w ∈ wsX30, w ∈ Ts) (hl : (Cond.fieldLink own index "KioskReel$Player" "started" "Z").before args s = true) {i : Int} (h : 0 ≤ i ∧ i < 6) {v : Int} (hv : σ 6 i 0 = v) (hdg : decode cc pc = .ok (.getfield index, 3)) (kk : W p l e R s m args below meth c H locs cells slots Q (F0 m (pc + 3) ls (.int (zi v) :: rest))) : W p l e R s m args below meth c H locs cells slots Q (F0 m pc ls (.ref (ad 10 i) :: rest)) :=
  r_get (N := 9) (ci := 4) (T := TX3) (C := RX3) hC hW hin rfl 3 (by decide) hl (fun _ h => h) h.1 h.2 rfl rfl hdg (by rw [hv]; exact kk)
theorem cp_Player_started (hC : CX p c cc s m args own Ts Dg cA ccnt ad A) (hW : WP Dg ccnt ad (cE cA ad σ) H) (hin : ∀ w ∈ wsX30, w ∈ Ts) (hl : (Cond.fieldLink own index "KioskReel$Player" "started" "Z").before args s = true) {i : Int} (h : 0 ≤ i ∧ i < 6) (hS : va_S A H0 H locs) {v : Int} (hv : v = 0 ∨ v = 1) (hdg : decode cc pc = .ok (.putfield index, 3)) (kk : ∀ (H1 : Heap) (locs1 : List Loc), WP Dg ccnt ad (cE cA ad (ups σ 6 i 0 v)) H1 → va_S A H0 H1 locs1 → W p l e R s m args below meth c H1 locs1 cells slots Q (F0 m (pc + 3) ls rest)) : W p l e R s m args below meth c H locs cells slots Q (F0 m pc ls (.int (zi v) :: .ref (ad 10 i) :: rest)) :=
  r_put (N := 9) (ci := 4) (T := TX3) (C := RX3) (ty := .boolean) hC hW hS hin tyX3 tyX3_ok nmX3 rfl 3 (by decide) hl (fun _ h => h) rfl (by decide +kernel) (by rcases hv with rfl | rfl <;> decide) (by rcases hv with rfl | rfl <;> decide) h.1 h.2 rfl (Nat.le_of_ble_eq_true rfl) rfl hdg (fun H1 locs1 hW1 hS1 => kk H1 locs1 (cE_ups 6 i 0 v rfl (Or.inl (by simp only [cE, ups]; simp)) hW1) hS1)
theorem cg_Player_firstList (hC : CX p c cc s m args own Ts Dg cA ccnt ad A) (hW : WP Dg ccnt ad (cE cA ad σ) H) (hin : ∀ w ∈ wsX30, w ∈ Ts) (hl : (Cond.fieldLink own index "KioskReel$Player" "firstList" "I").before args s = true) {i : Int} (h : 0 ≤ i ∧ i < 6) {v : Int} (hv : σ 7 i 0 = v) (hdg : decode cc pc = .ok (.getfield index, 3)) (kk : W p l e R s m args below meth c H locs cells slots Q (F0 m (pc + 3) ls (.int (zi v) :: rest))) : W p l e R s m args below meth c H locs cells slots Q (F0 m pc ls (.ref (ad 10 i) :: rest)) :=
  r_get (N := 9) (ci := 4) (T := TX3) (C := RX3) hC hW hin rfl 4 (by decide) hl (fun _ h => h) h.1 h.2 rfl rfl hdg (by rw [hv]; exact kk)
theorem cp_Player_firstList (hC : CX p c cc s m args own Ts Dg cA ccnt ad A) (hW : WP Dg ccnt ad (cE cA ad σ) H) (hin : ∀ w ∈ wsX30, w ∈ Ts) (hl : (Cond.fieldLink own index "KioskReel$Player" "firstList" "I").before args s = true) {i : Int} (h : 0 ≤ i ∧ i < 6) (hS : va_S A H0 H locs) {v : Int} (hdg : decode cc pc = .ok (.putfield index, 3)) (kk : ∀ (H1 : Heap) (locs1 : List Loc), WP Dg ccnt ad (cE cA ad (ups σ 7 i 0 v)) H1 → va_S A H0 H1 locs1 → W p l e R s m args below meth c H1 locs1 cells slots Q (F0 m (pc + 3) ls rest)) : W p l e R s m args below meth c H locs cells slots Q (F0 m pc ls (.int (zi v) :: .ref (ad 10 i) :: rest)) :=
  r_put (N := 9) (ci := 4) (T := TX3) (C := RX3) (ty := .int) hC hW hS hin tyX3 tyX3_ok nmX3 rfl 4 (by decide) hl (fun _ h => h) rfl (by decide +kernel) rfl rfl h.1 h.2 rfl (Nat.le_of_ble_eq_true rfl) rfl hdg (fun H1 locs1 hW1 hS1 => kk H1 locs1 (cE_ups 7 i 0 v rfl (Or.inl (by simp only [cE, ups]; simp)) hW1) hS1)
theorem cg_Player_place (hC : CX p c cc s m args own Ts Dg cA ccnt ad A) (hW : WP Dg ccnt ad (cE cA ad σ) H) (hin : ∀ w ∈ wsX30, w ∈ Ts) (hl : (Cond.fieldLink own index "KioskReel$Player" "place" "I").before args s = true) {i : Int} (h : 0 ≤ i ∧ i < 6) {v : Int} (hv : σ 8 i 0 = v) (hdg : decode cc pc = .ok (.getfield index, 3)) (kk : W p l e R s m args below meth c H locs cells slots Q (F0 m (pc + 3) ls (.int (zi v) :: rest))) : W p l e R s m args below meth c H locs cells slots Q (F0 m pc ls (.ref (ad 10 i) :: rest)) :=
  r_get (N := 9) (ci := 4) (T := TX3) (C := RX3) hC hW hin rfl 5 (by decide) hl (fun _ h => h) h.1 h.2 rfl rfl hdg (by rw [hv]; exact kk)
theorem cp_Player_place (hC : CX p c cc s m args own Ts Dg cA ccnt ad A) (hW : WP Dg ccnt ad (cE cA ad σ) H) (hin : ∀ w ∈ wsX30, w ∈ Ts) (hl : (Cond.fieldLink own index "KioskReel$Player" "place" "I").before args s = true) {i : Int} (h : 0 ≤ i ∧ i < 6) (hS : va_S A H0 H locs) {v : Int} (hdg : decode cc pc = .ok (.putfield index, 3)) (kk : ∀ (H1 : Heap) (locs1 : List Loc), WP Dg ccnt ad (cE cA ad (ups σ 8 i 0 v)) H1 → va_S A H0 H1 locs1 → W p l e R s m args below meth c H1 locs1 cells slots Q (F0 m (pc + 3) ls rest)) : W p l e R s m args below meth c H locs cells slots Q (F0 m pc ls (.int (zi v) :: .ref (ad 10 i) :: rest)) :=
  r_put (N := 9) (ci := 4) (T := TX3) (C := RX3) (ty := .int) hC hW hS hin tyX3 tyX3_ok nmX3 rfl 5 (by decide) hl (fun _ h => h) rfl (by decide +kernel) rfl rfl h.1 h.2 rfl (Nat.le_of_ble_eq_true rfl) rfl hdg (fun H1 locs1 hW1 hS1 => kk H1 locs1 (cE_ups 8 i 0 v rfl (Or.inl (by simp only [cE, ups]; simp)) hW1) hS1)
theorem cg_Player_counter (hC : CX p c cc s m args own Ts Dg cA ccnt ad A) (hW : WP Dg ccnt ad (cE cA ad σ) H) (hin : ∀ w ∈ wsX30, w ∈ Ts) (hl : (Cond.fieldLink own index "KioskReel$Player" "counter" "I").before args s = true) {i : Int} (h : 0 ≤ i ∧ i < 6) {v : Int} (hv : σ 9 i 0 = v) (hdg : decode cc pc = .ok (.getfield index, 3)) (kk : W p l e R s m args below meth c H locs cells slots Q (F0 m (pc + 3) ls (.int (zi v) :: rest))) : W p l e R s m args below meth c H locs cells slots Q (F0 m pc ls (.ref (ad 10 i) :: rest)) :=
  r_get (N := 9) (ci := 4) (T := TX3) (C := RX3) hC hW hin rfl 6 (by decide) hl (fun _ h => h) h.1 h.2 rfl rfl hdg (by rw [hv]; exact kk)
theorem cp_Player_counter (hC : CX p c cc s m args own Ts Dg cA ccnt ad A) (hW : WP Dg ccnt ad (cE cA ad σ) H) (hin : ∀ w ∈ wsX30, w ∈ Ts) (hl : (Cond.fieldLink own index "KioskReel$Player" "counter" "I").before args s = true) {i : Int} (h : 0 ≤ i ∧ i < 6) (hS : va_S A H0 H locs) {v : Int} (hdg : decode cc pc = .ok (.putfield index, 3)) (kk : ∀ (H1 : Heap) (locs1 : List Loc), WP Dg ccnt ad (cE cA ad (ups σ 9 i 0 v)) H1 → va_S A H0 H1 locs1 → W p l e R s m args below meth c H1 locs1 cells slots Q (F0 m (pc + 3) ls rest)) : W p l e R s m args below meth c H locs cells slots Q (F0 m pc ls (.int (zi v) :: .ref (ad 10 i) :: rest)) :=
  r_put (N := 9) (ci := 4) (T := TX3) (C := RX3) (ty := .int) hC hW hS hin tyX3 tyX3_ok nmX3 rfl 6 (by decide) hl (fun _ h => h) rfl (by decide +kernel) rfl rfl h.1 h.2 rfl (Nat.le_of_ble_eq_true rfl) rfl hdg (fun H1 locs1 hW1 hS1 => kk H1 locs1 (cE_ups 9 i 0 v rfl (Or.inl (by simp only [cE, ups]; simp)) hW1) hS1)
theorem cg_Player_ticksToWait (hC : CX p c cc s m args own Ts Dg cA ccnt ad A) (hW : WP Dg ccnt ad (cE cA ad σ) H) (hin : ∀ w ∈ wsX30, w ∈ Ts) (hl : (Cond.fieldLink own index "KioskReel$Player" "ticksToWait" "I").before args s = true) {i : Int} (h : 0 ≤ i ∧ i < 6) {v : Int} (hv : σ 10 i 0 = v) (hdg : decode cc pc = .ok (.getfield index, 3)) (kk : W p l e R s m args below meth c H locs cells slots Q (F0 m (pc + 3) ls (.int (zi v) :: rest))) : W p l e R s m args below meth c H locs cells slots Q (F0 m pc ls (.ref (ad 10 i) :: rest)) :=
  r_get (N := 9) (ci := 4) (T := TX3) (C := RX3) hC hW hin rfl 7 (by decide) hl (fun _ h => h) h.1 h.2 rfl rfl hdg (by rw [hv]; exact kk)
theorem cp_Player_ticksToWait (hC : CX p c cc s m args own Ts Dg cA ccnt ad A) (hW : WP Dg ccnt ad (cE cA ad σ) H) (hin : ∀ w ∈ wsX30, w ∈ Ts) (hl : (Cond.fieldLink own index "KioskReel$Player" "ticksToWait" "I").before args s = true) {i : Int} (h : 0 ≤ i ∧ i < 6) (hS : va_S A H0 H locs) {v : Int} (hdg : decode cc pc = .ok (.putfield index, 3)) (kk : ∀ (H1 : Heap) (locs1 : List Loc), WP Dg ccnt ad (cE cA ad (ups σ 10 i 0 v)) H1 → va_S A H0 H1 locs1 → W p l e R s m args below meth c H1 locs1 cells slots Q (F0 m (pc + 3) ls rest)) : W p l e R s m args below meth c H locs cells slots Q (F0 m pc ls (.int (zi v) :: .ref (ad 10 i) :: rest)) :=
  r_put (N := 9) (ci := 4) (T := TX3) (C := RX3) (ty := .int) hC hW hS hin tyX3 tyX3_ok nmX3 rfl 7 (by decide) hl (fun _ h => h) rfl (by decide +kernel) rfl rfl h.1 h.2 rfl (Nat.le_of_ble_eq_true rfl) rfl hdg (fun H1 locs1 hW1 hS1 => kk H1 locs1 (cE_ups 10 i 0 v rfl (Or.inl (by simp only [cE, ups]; simp)) hW1) hS1)
theorem cg_Player_awaitedDevice (hC : CX p c cc s m args own Ts Dg cA ccnt ad A) (hW : WP Dg ccnt ad (cE cA ad σ) H) (hin : ∀ w ∈ wsX30, w ∈ Ts) (hl : (Cond.fieldLink own index "KioskReel$Player" "awaitedDevice" "I").before args s = true) {i : Int} (h : 0 ≤ i ∧ i < 6) {v : Int} (hv : σ 11 i 0 = v) (hdg : decode cc pc = .ok (.getfield index, 3)) (kk : W p l e R s m args below meth c H locs cells slots Q (F0 m (pc + 3) ls (.int (zi v) :: rest))) : W p l e R s m args below meth c H locs cells slots Q (F0 m pc ls (.ref (ad 10 i) :: rest)) :=
  r_get (N := 9) (ci := 4) (T := TX3) (C := RX3) hC hW hin rfl 8 (by decide) hl (fun _ h => h) h.1 h.2 rfl rfl hdg (by rw [hv]; exact kk)
theorem cp_Player_awaitedDevice (hC : CX p c cc s m args own Ts Dg cA ccnt ad A) (hW : WP Dg ccnt ad (cE cA ad σ) H) (hin : ∀ w ∈ wsX30, w ∈ Ts) (hl : (Cond.fieldLink own index "KioskReel$Player" "awaitedDevice" "I").before args s = true) {i : Int} (h : 0 ≤ i ∧ i < 6) (hS : va_S A H0 H locs) {v : Int} (hdg : decode cc pc = .ok (.putfield index, 3)) (kk : ∀ (H1 : Heap) (locs1 : List Loc), WP Dg ccnt ad (cE cA ad (ups σ 11 i 0 v)) H1 → va_S A H0 H1 locs1 → W p l e R s m args below meth c H1 locs1 cells slots Q (F0 m (pc + 3) ls rest)) : W p l e R s m args below meth c H locs cells slots Q (F0 m pc ls (.int (zi v) :: .ref (ad 10 i) :: rest)) :=
  r_put (N := 9) (ci := 4) (T := TX3) (C := RX3) (ty := .int) hC hW hS hin tyX3 tyX3_ok nmX3 rfl 8 (by decide) hl (fun _ h => h) rfl (by decide +kernel) rfl rfl h.1 h.2 rfl (Nat.le_of_ble_eq_true rfl) rfl hdg (fun H1 locs1 hW1 hS1 => kk H1 locs1 (cE_ups 11 i 0 v rfl (Or.inl (by simp only [cE, ups]; simp)) hW1) hS1)
theorem cg_Device_queue (hC : CX p c cc s m args own Ts Dg cA ccnt ad A) (hW : WP Dg ccnt ad (cE cA ad σ) H) (hin : ∀ w ∈ wsX00, w ∈ Ts) (hl : (Cond.fieldLink own index "KioskReel$Device" "queue" "LKioskReel$PlayerRow;").before args s = true) {i : Int} (h : 0 ≤ i ∧ i < 6) (hdg : decode cc pc = .ok (.getfield index, 3)) (kk : W p l e R s m args below meth c H locs cells slots Q (F0 m (pc + 3) ls (.ref (ad 18 (6 + i)) :: rest))) : W p l e R s m args below meth c H locs cells slots Q (F0 m pc ls (.ref (ad 13 i) :: rest)) :=
  r_get (N := 2) (ci := 2) (T := TX0) (C := RX0) hC hW hin rfl 0 (by decide) hl (fun _ h => h) h.1 h.2 rfl rfl hdg kk
theorem cg_Device_owner (hC : CX p c cc s m args own Ts Dg cA ccnt ad A) (hW : WP Dg ccnt ad (cE cA ad σ) H) (hin : ∀ w ∈ wsX00, w ∈ Ts) (hl : (Cond.fieldLink own index "KioskReel$Device" "owner" "I").before args s = true) {i : Int} (h : 0 ≤ i ∧ i < 6) {v : Int} (hv : σ 18 i 0 = v) (hdg : decode cc pc = .ok (.getfield index, 3)) (kk : W p l e R s m args below meth c H locs cells slots Q (F0 m (pc + 3) ls (.int (zi v) :: rest))) : W p l e R s m args below meth c H locs cells slots Q (F0 m pc ls (.ref (ad 13 i) :: rest)) :=
  r_get (N := 2) (ci := 2) (T := TX0) (C := RX0) hC hW hin rfl 1 (by decide) hl (fun _ h => h) h.1 h.2 rfl rfl hdg (by rw [hv]; exact kk)
theorem cp_Device_owner (hC : CX p c cc s m args own Ts Dg cA ccnt ad A) (hW : WP Dg ccnt ad (cE cA ad σ) H) (hin : ∀ w ∈ wsX00, w ∈ Ts) (hl : (Cond.fieldLink own index "KioskReel$Device" "owner" "I").before args s = true) {i : Int} (h : 0 ≤ i ∧ i < 6) (hS : va_S A H0 H locs) {v : Int} (hdg : decode cc pc = .ok (.putfield index, 3)) (kk : ∀ (H1 : Heap) (locs1 : List Loc), WP Dg ccnt ad (cE cA ad (ups σ 18 i 0 v)) H1 → va_S A H0 H1 locs1 → W p l e R s m args below meth c H1 locs1 cells slots Q (F0 m (pc + 3) ls rest)) : W p l e R s m args below meth c H locs cells slots Q (F0 m pc ls (.int (zi v) :: .ref (ad 13 i) :: rest)) :=
  r_put (N := 2) (ci := 2) (T := TX0) (C := RX0) (ty := .int) hC hW hS hin tyX0 tyX0_ok nmX0 rfl 1 (by decide) hl (fun _ h => h) rfl (by decide +kernel) rfl rfl h.1 h.2 rfl (Nat.le_of_ble_eq_true rfl) rfl hdg (fun H1 locs1 hW1 hS1 => kk H1 locs1 (cE_ups 18 i 0 v rfl (Or.inl (by simp only [cE, ups]; simp)) hW1) hS1)
theorem cg_Visitor_timesSeen (hC : CX p c cc s m args own Ts Dg cA ccnt ad A) (hW : WP Dg ccnt ad (cE cA ad σ) H) (hin : ∀ w ∈ wsX60, w ∈ Ts) (hl : (Cond.fieldLink own index "KioskReel$Visitor" "timesSeen" "[I").before args s = true) {i : Int} (h : 0 ≤ i ∧ i < 10) (hdg : decode cc pc = .ok (.getfield index, 3)) (kk : W p l e R s m args below meth c H locs cells slots Q (F0 m (pc + 3) ls (.ref (ad 15 i) :: rest))) : W p l e R s m args below meth c H locs cells slots Q (F0 m pc ls (.ref (ad 14 i) :: rest)) :=
  r_get (N := 4) (ci := 7) (T := TX6) (C := RX6) hC hW hin rfl 0 (by decide) hl (fun _ h => h) h.1 h.2 rfl rfl hdg kk
theorem cg_Visitor_timesAsked (hC : CX p c cc s m args own Ts Dg cA ccnt ad A) (hW : WP Dg ccnt ad (cE cA ad σ) H) (hin : ∀ w ∈ wsX60, w ∈ Ts) (hl : (Cond.fieldLink own index "KioskReel$Visitor" "timesAsked" "[I").before args s = true) {i : Int} (h : 0 ≤ i ∧ i < 10) (hdg : decode cc pc = .ok (.getfield index, 3)) (kk : W p l e R s m args below meth c H locs cells slots Q (F0 m (pc + 3) ls (.ref (ad 16 i) :: rest))) : W p l e R s m args below meth c H locs cells slots Q (F0 m pc ls (.ref (ad 14 i) :: rest)) :=
  r_get (N := 4) (ci := 7) (T := TX6) (C := RX6) hC hW hin rfl 1 (by decide) hl (fun _ h => h) h.1 h.2 rfl rfl hdg kk
theorem cg_Visitor_wants (hC : CX p c cc s m args own Ts Dg cA ccnt ad A) (hW : WP Dg ccnt ad (cE cA ad σ) H) (hin : ∀ w ∈ wsX60, w ∈ Ts) (hl : (Cond.fieldLink own index "KioskReel$Visitor" "wants" "[Z").before args s = true) {i : Int} (h : 0 ≤ i ∧ i < 10) (hdg : decode cc pc = .ok (.getfield index, 3)) (kk : W p l e R s m args below meth c H locs cells slots Q (F0 m (pc + 3) ls (.ref (ad 17 i) :: rest))) : W p l e R s m args below meth c H locs cells slots Q (F0 m pc ls (.ref (ad 14 i) :: rest)) :=
  r_get (N := 4) (ci := 7) (T := TX6) (C := RX6) hC hW hin rfl 2 (by decide) hl (fun _ h => h) h.1 h.2 rfl rfl hdg kk
theorem cg_Visitor_place (hC : CX p c cc s m args own Ts Dg cA ccnt ad A) (hW : WP Dg ccnt ad (cE cA ad σ) H) (hin : ∀ w ∈ wsX60, w ∈ Ts) (hl : (Cond.fieldLink own index "KioskReel$Visitor" "place" "I").before args s = true) {i : Int} (h : 0 ≤ i ∧ i < 10) {v : Int} (hv : σ 22 i 0 = v) (hdg : decode cc pc = .ok (.getfield index, 3)) (kk : W p l e R s m args below meth c H locs cells slots Q (F0 m (pc + 3) ls (.int (zi v) :: rest))) : W p l e R s m args below meth c H locs cells slots Q (F0 m pc ls (.ref (ad 14 i) :: rest)) :=
  r_get (N := 4) (ci := 7) (T := TX6) (C := RX6) hC hW hin rfl 3 (by decide) hl (fun _ h => h) h.1 h.2 rfl rfl hdg (by rw [hv]; exact kk)
theorem cp_Visitor_place (hC : CX p c cc s m args own Ts Dg cA ccnt ad A) (hW : WP Dg ccnt ad (cE cA ad σ) H) (hin : ∀ w ∈ wsX60, w ∈ Ts) (hl : (Cond.fieldLink own index "KioskReel$Visitor" "place" "I").before args s = true) {i : Int} (h : 0 ≤ i ∧ i < 10) (hS : va_S A H0 H locs) {v : Int} (hdg : decode cc pc = .ok (.putfield index, 3)) (kk : ∀ (H1 : Heap) (locs1 : List Loc), WP Dg ccnt ad (cE cA ad (ups σ 22 i 0 v)) H1 → va_S A H0 H1 locs1 → W p l e R s m args below meth c H1 locs1 cells slots Q (F0 m (pc + 3) ls rest)) : W p l e R s m args below meth c H locs cells slots Q (F0 m pc ls (.int (zi v) :: .ref (ad 14 i) :: rest)) :=
  r_put (N := 4) (ci := 7) (T := TX6) (C := RX6) (ty := .int) hC hW hS hin tyX6 tyX6_ok nmX6 rfl 3 (by decide) hl (fun _ h => h) rfl (by decide +kernel) rfl rfl h.1 h.2 rfl (Nat.le_of_ble_eq_true rfl) rfl hdg (fun H1 locs1 hW1 hS1 => kk H1 locs1 (cE_ups 22 i 0 v rfl (Or.inl (by simp only [cE, ups]; simp)) hW1) hS1)
theorem cg_Row_members (hC : CX p c cc s m args own Ts Dg cA ccnt ad A) (hW : WP Dg ccnt ad (cE cA ad σ) H) (hin : ∀ w ∈ wsX40, w ∈ Ts) (hl : (Cond.fieldLink own index "KioskReel$PlayerRow" "members" "[I").before args s = true) {i : Int} (h : 0 ≤ i ∧ i < 12) (hdg : decode cc pc = .ok (.getfield index, 3)) (kk : W p l e R s m args below meth c H locs cells slots Q (F0 m (pc + 3) ls (.ref (ad 19 i) :: rest))) : W p l e R s m args below meth c H locs cells slots Q (F0 m pc ls (.ref (ad 18 i) :: rest)) :=
  r_get (N := 2) (ci := 5) (T := TX4) (C := RX4) hC hW hin rfl 0 (by decide) hl (fun _ h => h) h.1 h.2 rfl rfl hdg kk
theorem cg_Row_size (hC : CX p c cc s m args own Ts Dg cA ccnt ad A) (hW : WP Dg ccnt ad (cE cA ad σ) H) (hin : ∀ w ∈ wsX40, w ∈ Ts) (hl : (Cond.fieldLink own index "KioskReel$PlayerRow" "size" "I").before args s = true) {i : Int} (h : 0 ≤ i ∧ i < 12) {v : Int} (hv : σ 17 i 0 = v) (hdg : decode cc pc = .ok (.getfield index, 3)) (kk : W p l e R s m args below meth c H locs cells slots Q (F0 m (pc + 3) ls (.int (zi v) :: rest))) : W p l e R s m args below meth c H locs cells slots Q (F0 m pc ls (.ref (ad 18 i) :: rest)) :=
  r_get (N := 2) (ci := 5) (T := TX4) (C := RX4) hC hW hin rfl 1 (by decide) hl (fun _ h => h) h.1 h.2 rfl rfl hdg (by rw [hv]; exact kk)
theorem cp_Row_size (hC : CX p c cc s m args own Ts Dg cA ccnt ad A) (hW : WP Dg ccnt ad (cE cA ad σ) H) (hin : ∀ w ∈ wsX40, w ∈ Ts) (hl : (Cond.fieldLink own index "KioskReel$PlayerRow" "size" "I").before args s = true) {i : Int} (h : 0 ≤ i ∧ i < 12) (hS : va_S A H0 H locs) {v : Int} (hdg : decode cc pc = .ok (.putfield index, 3)) (kk : ∀ (H1 : Heap) (locs1 : List Loc), WP Dg ccnt ad (cE cA ad (ups σ 17 i 0 v)) H1 → va_S A H0 H1 locs1 → W p l e R s m args below meth c H1 locs1 cells slots Q (F0 m (pc + 3) ls rest)) : W p l e R s m args below meth c H locs cells slots Q (F0 m pc ls (.int (zi v) :: .ref (ad 18 i) :: rest)) :=
  r_put (N := 2) (ci := 5) (T := TX4) (C := RX4) (ty := .int) hC hW hS hin tyX4 tyX4_ok nmX4 rfl 1 (by decide) hl (fun _ h => h) rfl (by decide +kernel) rfl rfl h.1 h.2 rfl (Nat.le_of_ble_eq_true rfl) rfl hdg (fun H1 locs1 hW1 hS1 => kk H1 locs1 (cE_ups 17 i 0 v rfl (Or.inl (by simp only [cE, ups]; simp)) hW1) hS1)
theorem ca_reels (hC : CX p c cc s m args own Ts Dg cA ccnt ad A) (hW : WP Dg ccnt ad (cE cA ad σ) H) {x : Int} (hx : 0 ≤ x ∧ x < 8) (hdg : decode cc pc = .ok (.aaload, 1)) (kk : W p l e R s m args below meth c H locs cells slots Q (F0 m (pc + 1) ls (.ref (ad 6 x) :: rest))) : W p l e R s m args below meth c H locs cells slots Q (F0 m pc ls (.int (zi x) :: .ref (ad 1 0) :: rest)) :=
  r_aald (t := 1) (ty := 3) (n := 8) (g := fun j => ad 6 j) hC hW (by decide) (by decide) rfl rfl (by decide) hx hdg kk
theorem ca_kiosks (hC : CX p c cc s m args own Ts Dg cA ccnt ad A) (hW : WP Dg ccnt ad (cE cA ad σ) H) {x : Int} (hx : 0 ≤ x ∧ x < 6) (hdg : decode cc pc = .ok (.aaload, 1)) (kk : W p l e R s m args below meth c H locs cells slots Q (F0 m (pc + 1) ls (.ref (ad 9 x) :: rest))) : W p l e R s m args below meth c H locs cells slots Q (F0 m pc ls (.int (zi x) :: .ref (ad 2 0) :: rest)) :=
  r_aald (t := 2) (ty := 4) (n := 6) (g := fun j => ad 9 j) hC hW (by decide) (by decide) rfl rfl (by decide) hx hdg kk
theorem ca_players (hC : CX p c cc s m args own Ts Dg cA ccnt ad A) (hW : WP Dg ccnt ad (cE cA ad σ) H) {x : Int} (hx : 0 ≤ x ∧ x < 6) (hdg : decode cc pc = .ok (.aaload, 1)) (kk : W p l e R s m args below meth c H locs cells slots Q (F0 m (pc + 1) ls (.ref (ad 10 x) :: rest))) : W p l e R s m args below meth c H locs cells slots Q (F0 m pc ls (.int (zi x) :: .ref (ad 3 0) :: rest)) :=
  r_aald (t := 3) (ty := 5) (n := 6) (g := fun j => ad 10 j) hC hW (by decide) (by decide) rfl rfl (by decide) hx hdg kk
theorem ca_devices (hC : CX p c cc s m args own Ts Dg cA ccnt ad A) (hW : WP Dg ccnt ad (cE cA ad σ) H) {x : Int} (hx : 0 ≤ x ∧ x < 6) (hdg : decode cc pc = .ok (.aaload, 1)) (kk : W p l e R s m args below meth c H locs cells slots Q (F0 m (pc + 1) ls (.ref (ad 13 x) :: rest))) : W p l e R s m args below meth c H locs cells slots Q (F0 m pc ls (.int (zi x) :: .ref (ad 4 0) :: rest)) :=
  r_aald (t := 4) (ty := 6) (n := 6) (g := fun j => ad 13 j) hC hW (by decide) (by decide) rfl rfl (by decide) hx hdg kk
theorem ca_visitors (hC : CX p c cc s m args own Ts Dg cA ccnt ad A) (hW : WP Dg ccnt ad (cE cA ad σ) H) {x : Int} (hx : 0 ≤ x ∧ x < 10) (hdg : decode cc pc = .ok (.aaload, 1)) (kk : W p l e R s m args below meth c H locs cells slots Q (F0 m (pc + 1) ls (.ref (ad 14 x) :: rest))) : W p l e R s m args below meth c H locs cells slots Q (F0 m pc ls (.int (zi x) :: .ref (ad 5 0) :: rest)) :=
  r_aald (t := 5) (ty := 7) (n := 10) (g := fun j => ad 14 j) hC hW (by decide) (by decide) rfl rfl (by decide) hx hdg kk
theorem ca_kinds (hC : CX p c cc s m args own Ts Dg cA ccnt ad A) (hW : WP Dg ccnt ad (cE cA ad σ) H) {i : Int} (h : 0 ≤ i ∧ i < 32) {x : Int} (hx : 0 ≤ x ∧ x < 20) {v : Int} (hv : σ 1 i x = v) (hdg : decode cc pc = .ok (.caload, 1)) (kk : W p l e R s m args below meth c H locs cells slots Q (F0 m (pc + 1) ls (.int (zi v) :: rest))) : W p l e R s m args below meth c H locs cells slots Q (F0 m pc ls (.int (zi x) :: .ref (ad 7 i) :: rest)) :=
  r_cald (t := 7) (n := 20) (g := fun j => σ 1 i j) hC hW h.1 h.2 rfl (by decide) hx hdg (by simp only [hv]; exact kk)
theorem cs_kinds (hC : CX p c cc s m args own Ts Dg cA ccnt ad A) (hW : WP Dg ccnt ad (cE cA ad σ) H) {i : Int} (h : 0 ≤ i ∧ i < 32) {x : Int} (hx : 0 ≤ x ∧ x < 20) (hS : va_S A H0 H locs) {v : Int} (hy : 0 ≤ v ∧ v < 65536) (hdg : decode cc pc = .ok (.castore, 1)) (kk : ∀ (H1 : Heap) (locs1 : List Loc), WP Dg ccnt ad (cE cA ad (ups σ 1 i x v)) H1 → va_S A H0 H1 locs1 → W p l e R s m args below meth c H1 locs1 cells slots Q (F0 m (pc + 1) ls rest)) : W p l e R s m args below meth c H locs cells slots Q (F0 m pc ls (.int (zi v) :: .int (zi x) :: .ref (ad 7 i) :: rest)) :=
  r_cast (t := 7) (n := 20) (g := fun j => σ 1 i j) hC hW hS h.1 h.2 (fun j => ups σ 1 i x v 1 i j) rfl (by decide) hy hx (fun j _ _ => by simp [ups]) rfl hdg (fun H1 locs1 hW1 hS1 => kk H1 locs1 (cE_ups 1 i x v rfl veq.rf hW1) hS1)
theorem ca_numbers (hC : CX p c cc s m args own Ts Dg cA ccnt ad A) (hW : WP Dg ccnt ad (cE cA ad σ) H) {i : Int} (h : 0 ≤ i ∧ i < 32) {x : Int} (hx : 0 ≤ x ∧ x < 20) {v : Int} (hv : σ 2 i x = v) (hdg : decode cc pc = .ok (.iaload, 1)) (kk : W p l e R s m args below meth c H locs cells slots Q (F0 m (pc + 1) ls (.int (zi v) :: rest))) : W p l e R s m args below meth c H locs cells slots Q (F0 m pc ls (.int (zi x) :: .ref (ad 8 i) :: rest)) :=
  r_iald (t := 8) (n := 20) (g := fun j => σ 2 i j) hC hW h.1 h.2 rfl (by decide) hx hdg (by simp only [hv]; exact kk)
theorem cs_numbers (hC : CX p c cc s m args own Ts Dg cA ccnt ad A) (hW : WP Dg ccnt ad (cE cA ad σ) H) {i : Int} (h : 0 ≤ i ∧ i < 32) {x : Int} (hx : 0 ≤ x ∧ x < 20) (hS : va_S A H0 H locs) {v : Int} (hdg : decode cc pc = .ok (.iastore, 1)) (kk : ∀ (H1 : Heap) (locs1 : List Loc), WP Dg ccnt ad (cE cA ad (ups σ 2 i x v)) H1 → va_S A H0 H1 locs1 → W p l e R s m args below meth c H1 locs1 cells slots Q (F0 m (pc + 1) ls rest)) : W p l e R s m args below meth c H locs cells slots Q (F0 m pc ls (.int (zi v) :: .int (zi x) :: .ref (ad 8 i) :: rest)) :=
  r_iast (t := 8) (n := 20) (g := fun j => σ 2 i j) hC hW hS h.1 h.2 (fun j => ups σ 2 i x v 2 i j) rfl (by decide) hx (fun j _ _ => by simp [ups]) rfl hdg (fun H1 locs1 hW1 hS1 => kk H1 locs1 (cE_ups 2 i x v rfl veq.rf hW1) hS1)
theorem ca_pile (hC : CX p c cc s m args own Ts Dg cA ccnt ad A) (hW : WP Dg ccnt ad (cE cA ad σ) H) {i : Int} (h : 0 ≤ i ∧ i < 6) {x : Int} (hx : 0 ≤ x ∧ x < 4) (hdg : decode cc pc = .ok (.aaload, 1)) (kk : W p l e R s m args below meth c H locs cells slots Q (F0 m (pc + 1) ls (.ref (ad 6 (8 + 4 * i + x)) :: rest))) : W p l e R s m args below meth c H locs cells slots Q (F0 m pc ls (.int (zi x) :: .ref (ad 11 i) :: rest)) :=
  r_aald (t := 11) (ty := 3) (n := 4) (g := fun j => ad 6 (8 + 4 * i + j)) hC hW h.1 h.2 rfl rfl (by decide) hx hdg kk
theorem ca_ahead (hC : CX p c cc s m args own Ts Dg cA ccnt ad A) (hW : WP Dg ccnt ad (cE cA ad σ) H) {i : Int} (h : 0 ≤ i ∧ i < 6) {x : Int} (hx : 0 ≤ x ∧ x < 4) {v : Int} (hv : σ 4 i x = v) (hdg : decode cc pc = .ok (.iaload, 1)) (kk : W p l e R s m args below meth c H locs cells slots Q (F0 m (pc + 1) ls (.int (zi v) :: rest))) : W p l e R s m args below meth c H locs cells slots Q (F0 m pc ls (.int (zi x) :: .ref (ad 12 i) :: rest)) :=
  r_iald (t := 12) (n := 4) (g := fun j => σ 4 i j) hC hW h.1 h.2 rfl (by decide) hx hdg (by simp only [hv]; exact kk)
theorem cs_ahead (hC : CX p c cc s m args own Ts Dg cA ccnt ad A) (hW : WP Dg ccnt ad (cE cA ad σ) H) {i : Int} (h : 0 ≤ i ∧ i < 6) {x : Int} (hx : 0 ≤ x ∧ x < 4) (hS : va_S A H0 H locs) {v : Int} (hdg : decode cc pc = .ok (.iastore, 1)) (kk : ∀ (H1 : Heap) (locs1 : List Loc), WP Dg ccnt ad (cE cA ad (ups σ 4 i x v)) H1 → va_S A H0 H1 locs1 → W p l e R s m args below meth c H1 locs1 cells slots Q (F0 m (pc + 1) ls rest)) : W p l e R s m args below meth c H locs cells slots Q (F0 m pc ls (.int (zi v) :: .int (zi x) :: .ref (ad 12 i) :: rest)) :=
  r_iast (t := 12) (n := 4) (g := fun j => σ 4 i j) hC hW hS h.1 h.2 (fun j => ups σ 4 i x v 4 i j) rfl (by decide) hx (fun j _ _ => by simp [ups]) rfl hdg (fun H1 locs1 hW1 hS1 => kk H1 locs1 (cE_ups 4 i x v rfl veq.rf hW1) hS1)
theorem ca_seen (hC : CX p c cc s m args own Ts Dg cA ccnt ad A) (hW : WP Dg ccnt ad (cE cA ad σ) H) {i : Int} (h : 0 ≤ i ∧ i < 10) {x : Int} (hx : 0 ≤ x ∧ x < 100) {v : Int} (hv : σ 19 i x = v) (hdg : decode cc pc = .ok (.iaload, 1)) (kk : W p l e R s m args below meth c H locs cells slots Q (F0 m (pc + 1) ls (.int (zi v) :: rest))) : W p l e R s m args below meth c H locs cells slots Q (F0 m pc ls (.int (zi x) :: .ref (ad 15 i) :: rest)) :=
  r_iald (t := 15) (n := 100) (g := fun j => σ 19 i j) hC hW h.1 h.2 rfl (by decide) hx hdg (by simp only [hv]; exact kk)
theorem cs_seen (hC : CX p c cc s m args own Ts Dg cA ccnt ad A) (hW : WP Dg ccnt ad (cE cA ad σ) H) {i : Int} (h : 0 ≤ i ∧ i < 10) {x : Int} (hx : 0 ≤ x ∧ x < 100) (hS : va_S A H0 H locs) {v : Int} (hdg : decode cc pc = .ok (.iastore, 1)) (kk : ∀ (H1 : Heap) (locs1 : List Loc), WP Dg ccnt ad (cE cA ad (ups σ 19 i x v)) H1 → va_S A H0 H1 locs1 → W p l e R s m args below meth c H1 locs1 cells slots Q (F0 m (pc + 1) ls rest)) : W p l e R s m args below meth c H locs cells slots Q (F0 m pc ls (.int (zi v) :: .int (zi x) :: .ref (ad 15 i) :: rest)) :=
  r_iast (t := 15) (n := 100) (g := fun j => σ 19 i j) hC hW hS h.1 h.2 (fun j => ups σ 19 i x v 19 i j) rfl (by decide) hx (fun j _ _ => by simp [ups]) rfl hdg (fun H1 locs1 hW1 hS1 => kk H1 locs1 (cE_ups 19 i x v rfl veq.rf hW1) hS1)
theorem ca_asked (hC : CX p c cc s m args own Ts Dg cA ccnt ad A) (hW : WP Dg ccnt ad (cE cA ad σ) H) {i : Int} (h : 0 ≤ i ∧ i < 10) {x : Int} (hx : 0 ≤ x ∧ x < 100) {v : Int} (hv : σ 20 i x = v) (hdg : decode cc pc = .ok (.iaload, 1)) (kk : W p l e R s m args below meth c H locs cells slots Q (F0 m (pc + 1) ls (.int (zi v) :: rest))) : W p l e R s m args below meth c H locs cells slots Q (F0 m pc ls (.int (zi x) :: .ref (ad 16 i) :: rest)) :=
  r_iald (t := 16) (n := 100) (g := fun j => σ 20 i j) hC hW h.1 h.2 rfl (by decide) hx hdg (by simp only [hv]; exact kk)
theorem cs_asked (hC : CX p c cc s m args own Ts Dg cA ccnt ad A) (hW : WP Dg ccnt ad (cE cA ad σ) H) {i : Int} (h : 0 ≤ i ∧ i < 10) {x : Int} (hx : 0 ≤ x ∧ x < 100) (hS : va_S A H0 H locs) {v : Int} (hdg : decode cc pc = .ok (.iastore, 1)) (kk : ∀ (H1 : Heap) (locs1 : List Loc), WP Dg ccnt ad (cE cA ad (ups σ 20 i x v)) H1 → va_S A H0 H1 locs1 → W p l e R s m args below meth c H1 locs1 cells slots Q (F0 m (pc + 1) ls rest)) : W p l e R s m args below meth c H locs cells slots Q (F0 m pc ls (.int (zi v) :: .int (zi x) :: .ref (ad 16 i) :: rest)) :=
  r_iast (t := 16) (n := 100) (g := fun j => σ 20 i j) hC hW hS h.1 h.2 (fun j => ups σ 20 i x v 20 i j) rfl (by decide) hx (fun j _ _ => by simp [ups]) rfl hdg (fun H1 locs1 hW1 hS1 => kk H1 locs1 (cE_ups 20 i x v rfl veq.rf hW1) hS1)
theorem ca_wants (hC : CX p c cc s m args own Ts Dg cA ccnt ad A) (hW : WP Dg ccnt ad (cE cA ad σ) H) {i : Int} (h : 0 ≤ i ∧ i < 10) {x : Int} (hx : 0 ≤ x ∧ x < 100) {v : Int} (hv : σ 21 i x = v) (hdg : decode cc pc = .ok (.baload, 1)) (kk : W p l e R s m args below meth c H locs cells slots Q (F0 m (pc + 1) ls (.int (zi v) :: rest))) : W p l e R s m args below meth c H locs cells slots Q (F0 m pc ls (.int (zi x) :: .ref (ad 17 i) :: rest)) :=
  r_zald (t := 17) (n := 100) (g := fun j => σ 21 i j) hC hW h.1 h.2 rfl (by decide) hx hdg (by simp only [hv]; exact kk)
theorem cs_wants (hC : CX p c cc s m args own Ts Dg cA ccnt ad A) (hW : WP Dg ccnt ad (cE cA ad σ) H) {i : Int} (h : 0 ≤ i ∧ i < 10) {x : Int} (hx : 0 ≤ x ∧ x < 100) (hS : va_S A H0 H locs) {v : Int} (hy : v = 0 ∨ v = 1) (hdg : decode cc pc = .ok (.bastore, 1)) (kk : ∀ (H1 : Heap) (locs1 : List Loc), WP Dg ccnt ad (cE cA ad (ups σ 21 i x v)) H1 → va_S A H0 H1 locs1 → W p l e R s m args below meth c H1 locs1 cells slots Q (F0 m (pc + 1) ls rest)) : W p l e R s m args below meth c H locs cells slots Q (F0 m pc ls (.int (zi v) :: .int (zi x) :: .ref (ad 17 i) :: rest)) :=
  r_zast (t := 17) (n := 100) (g := fun j => σ 21 i j) hC hW hS h.1 h.2 (fun j => ups σ 21 i x v 21 i j) rfl (by decide) hy hx (fun j _ _ => by simp [ups]) rfl hdg (fun H1 locs1 hW1 hS1 => kk H1 locs1 (cE_ups 21 i x v rfl veq.rf hW1) hS1)
theorem ca_members (hC : CX p c cc s m args own Ts Dg cA ccnt ad A) (hW : WP Dg ccnt ad (cE cA ad σ) H) {i : Int} (h : 0 ≤ i ∧ i < 12) {x : Int} (hx : 0 ≤ x ∧ x < 6) {v : Int} (hv : σ 16 i x = v) (hdg : decode cc pc = .ok (.iaload, 1)) (kk : W p l e R s m args below meth c H locs cells slots Q (F0 m (pc + 1) ls (.int (zi v) :: rest))) : W p l e R s m args below meth c H locs cells slots Q (F0 m pc ls (.int (zi x) :: .ref (ad 19 i) :: rest)) :=
  r_iald (t := 19) (n := 6) (g := fun j => σ 16 i j) hC hW h.1 h.2 rfl (by decide) hx hdg (by simp only [hv]; exact kk)
theorem cs_members (hC : CX p c cc s m args own Ts Dg cA ccnt ad A) (hW : WP Dg ccnt ad (cE cA ad σ) H) {i : Int} (h : 0 ≤ i ∧ i < 12) {x : Int} (hx : 0 ≤ x ∧ x < 6) (hS : va_S A H0 H locs) {v : Int} (hdg : decode cc pc = .ok (.iastore, 1)) (kk : ∀ (H1 : Heap) (locs1 : List Loc), WP Dg ccnt ad (cE cA ad (ups σ 16 i x v)) H1 → va_S A H0 H1 locs1 → W p l e R s m args below meth c H1 locs1 cells slots Q (F0 m (pc + 1) ls rest)) : W p l e R s m args below meth c H locs cells slots Q (F0 m pc ls (.int (zi v) :: .int (zi x) :: .ref (ad 19 i) :: rest)) :=
  r_iast (t := 19) (n := 6) (g := fun j => σ 16 i j) hC hW hS h.1 h.2 (fun j => ups σ 16 i x v 16 i j) rfl (by decide) hx (fun j _ _ => by simp [ups]) rfl hdg (fun H1 locs1 hW1 hS1 => kk H1 locs1 (cE_ups 16 i x v rfl veq.rf hW1) hS1)
theorem mg_many (hC : CX p c cc s m args own Ts Dg cA mcnt ad A) (hW : WP Dg mcnt ad (mE cA ad σ) H) (hin : ∀ w ∈ wsX80, w ∈ Ts) (hl : (Cond.fieldLink own index "KioskReelModel" "many" "[I").before args s = true) (hdg : decode cc pc = .ok (.getfield index, 3)) (kk : W p l e R s m args below meth c H locs cells slots Q (F0 m (pc + 3) ls (.ref (ad 1 0) :: rest))) : W p l e R s m args below meth c H locs cells slots Q (F0 m pc ls (.ref (ad 0 0) :: rest)) :=
  r_get (N := 32) (ci := 9) (T := TX8) (C := RX8) hC hW hin rfl 0 (by decide) hl (fun _ h => h) (by decide) (by decide) rfl rfl hdg kk
theorem mg_kind (hC : CX p c cc s m args own Ts Dg cA mcnt ad A) (hW : WP Dg mcnt ad (mE cA ad σ) H) (hin : ∀ w ∈ wsX80, w ∈ Ts) (hl : (Cond.fieldLink own index "KioskReelModel" "kind" "[I").before args s = true) (hdg : decode cc pc = .ok (.getfield index, 3)) (kk : W p l e R s m args below meth c H locs cells slots Q (F0 m (pc + 3) ls (.ref (ad 2 0) :: rest))) : W p l e R s m args below meth c H locs cells slots Q (F0 m pc ls (.ref (ad 0 0) :: rest)) :=
  r_get (N := 32) (ci := 9) (T := TX8) (C := RX8) hC hW hin rfl 1 (by decide) hl (fun _ h => h) (by decide) (by decide) rfl rfl hdg kk
theorem mg_number (hC : CX p c cc s m args own Ts Dg cA mcnt ad A) (hW : WP Dg mcnt ad (mE cA ad σ) H) (hin : ∀ w ∈ wsX80, w ∈ Ts) (hl : (Cond.fieldLink own index "KioskReelModel" "number" "[I").before args s = true) (hdg : decode cc pc = .ok (.getfield index, 3)) (kk : W p l e R s m args below meth c H locs cells slots Q (F0 m (pc + 3) ls (.ref (ad 3 0) :: rest))) : W p l e R s m args below meth c H locs cells slots Q (F0 m pc ls (.ref (ad 0 0) :: rest)) :=
  r_get (N := 32) (ci := 9) (T := TX8) (C := RX8) hC hW hin rfl 2 (by decide) hl (fun _ h => h) (by decide) (by decide) rfl rfl hdg kk
theorem mg_pileMany (hC : CX p c cc s m args own Ts Dg cA mcnt ad A) (hW : WP Dg mcnt ad (mE cA ad σ) H) (hin : ∀ w ∈ wsX80, w ∈ Ts) (hl : (Cond.fieldLink own index "KioskReelModel" "pileMany" "[I").before args s = true) (hdg : decode cc pc = .ok (.getfield index, 3)) (kk : W p l e R s m args below meth c H locs cells slots Q (F0 m (pc + 3) ls (.ref (ad 4 0) :: rest))) : W p l e R s m args below meth c H locs cells slots Q (F0 m pc ls (.ref (ad 0 0) :: rest)) :=
  r_get (N := 32) (ci := 9) (T := TX8) (C := RX8) hC hW hin rfl 3 (by decide) hl (fun _ h => h) (by decide) (by decide) rfl rfl hdg kk
theorem mg_pileKind (hC : CX p c cc s m args own Ts Dg cA mcnt ad A) (hW : WP Dg mcnt ad (mE cA ad σ) H) (hin : ∀ w ∈ wsX80, w ∈ Ts) (hl : (Cond.fieldLink own index "KioskReelModel" "pileKind" "[I").before args s = true) (hdg : decode cc pc = .ok (.getfield index, 3)) (kk : W p l e R s m args below meth c H locs cells slots Q (F0 m (pc + 3) ls (.ref (ad 5 0) :: rest))) : W p l e R s m args below meth c H locs cells slots Q (F0 m pc ls (.ref (ad 0 0) :: rest)) :=
  r_get (N := 32) (ci := 9) (T := TX8) (C := RX8) hC hW hin rfl 4 (by decide) hl (fun _ h => h) (by decide) (by decide) rfl rfl hdg kk
theorem mg_pileNumber (hC : CX p c cc s m args own Ts Dg cA mcnt ad A) (hW : WP Dg mcnt ad (mE cA ad σ) H) (hin : ∀ w ∈ wsX80, w ∈ Ts) (hl : (Cond.fieldLink own index "KioskReelModel" "pileNumber" "[I").before args s = true) (hdg : decode cc pc = .ok (.getfield index, 3)) (kk : W p l e R s m args below meth c H locs cells slots Q (F0 m (pc + 3) ls (.ref (ad 6 0) :: rest))) : W p l e R s m args below meth c H locs cells slots Q (F0 m pc ls (.ref (ad 0 0) :: rest)) :=
  r_get (N := 32) (ci := 9) (T := TX8) (C := RX8) hC hW hin rfl 5 (by decide) hl (fun _ h => h) (by decide) (by decide) rfl rfl hdg kk
theorem mg_pileList (hC : CX p c cc s m args own Ts Dg cA mcnt ad A) (hW : WP Dg mcnt ad (mE cA ad σ) H) (hin : ∀ w ∈ wsX80, w ∈ Ts) (hl : (Cond.fieldLink own index "KioskReelModel" "pileList" "[I").before args s = true) (hdg : decode cc pc = .ok (.getfield index, 3)) (kk : W p l e R s m args below meth c H locs cells slots Q (F0 m (pc + 3) ls (.ref (ad 7 0) :: rest))) : W p l e R s m args below meth c H locs cells slots Q (F0 m pc ls (.ref (ad 0 0) :: rest)) :=
  r_get (N := 32) (ci := 9) (T := TX8) (C := RX8) hC hW hin rfl 6 (by decide) hl (fun _ h => h) (by decide) (by decide) rfl rfl hdg kk
theorem mg_pileNext (hC : CX p c cc s m args own Ts Dg cA mcnt ad A) (hW : WP Dg mcnt ad (mE cA ad σ) H) (hin : ∀ w ∈ wsX80, w ∈ Ts) (hl : (Cond.fieldLink own index "KioskReelModel" "pileNext" "[I").before args s = true) (hdg : decode cc pc = .ok (.getfield index, 3)) (kk : W p l e R s m args below meth c H locs cells slots Q (F0 m (pc + 3) ls (.ref (ad 8 0) :: rest))) : W p l e R s m args below meth c H locs cells slots Q (F0 m pc ls (.ref (ad 0 0) :: rest)) :=
  r_get (N := 32) (ci := 9) (T := TX8) (C := RX8) hC hW hin rfl 7 (by decide) hl (fun _ h => h) (by decide) (by decide) rfl rfl hdg kk
theorem mg_hasPlayer (hC : CX p c cc s m args own Ts Dg cA mcnt ad A) (hW : WP Dg mcnt ad (mE cA ad σ) H) (hin : ∀ w ∈ wsX80, w ∈ Ts) (hl : (Cond.fieldLink own index "KioskReelModel" "hasPlayer" "[Z").before args s = true) (hdg : decode cc pc = .ok (.getfield index, 3)) (kk : W p l e R s m args below meth c H locs cells slots Q (F0 m (pc + 3) ls (.ref (ad 9 0) :: rest))) : W p l e R s m args below meth c H locs cells slots Q (F0 m pc ls (.ref (ad 0 0) :: rest)) :=
  r_get (N := 32) (ci := 9) (T := TX8) (C := RX8) hC hW hin rfl 8 (by decide) hl (fun _ h => h) (by decide) (by decide) rfl rfl hdg kk
theorem mg_isFrozen (hC : CX p c cc s m args own Ts Dg cA mcnt ad A) (hW : WP Dg mcnt ad (mE cA ad σ) H) (hin : ∀ w ∈ wsX80, w ∈ Ts) (hl : (Cond.fieldLink own index "KioskReelModel" "isFrozen" "[Z").before args s = true) (hdg : decode cc pc = .ok (.getfield index, 3)) (kk : W p l e R s m args below meth c H locs cells slots Q (F0 m (pc + 3) ls (.ref (ad 10 0) :: rest))) : W p l e R s m args below meth c H locs cells slots Q (F0 m pc ls (.ref (ad 0 0) :: rest)) :=
  r_get (N := 32) (ci := 9) (T := TX8) (C := RX8) hC hW hin rfl 9 (by decide) hl (fun _ h => h) (by decide) (by decide) rfl rfl hdg kk
theorem mg_isOut (hC : CX p c cc s m args own Ts Dg cA mcnt ad A) (hW : WP Dg mcnt ad (mE cA ad σ) H) (hin : ∀ w ∈ wsX80, w ∈ Ts) (hl : (Cond.fieldLink own index "KioskReelModel" "isOut" "[Z").before args s = true) (hdg : decode cc pc = .ok (.getfield index, 3)) (kk : W p l e R s m args below meth c H locs cells slots Q (F0 m (pc + 3) ls (.ref (ad 11 0) :: rest))) : W p l e R s m args below meth c H locs cells slots Q (F0 m pc ls (.ref (ad 0 0) :: rest)) :=
  r_get (N := 32) (ci := 9) (T := TX8) (C := RX8) hC hW hin rfl 10 (by decide) hl (fun _ h => h) (by decide) (by decide) rfl rfl hdg kk
theorem mg_depth (hC : CX p c cc s m args own Ts Dg cA mcnt ad A) (hW : WP Dg mcnt ad (mE cA ad σ) H) (hin : ∀ w ∈ wsX80, w ∈ Ts) (hl : (Cond.fieldLink own index "KioskReelModel" "depth" "[I").before args s = true) (hdg : decode cc pc = .ok (.getfield index, 3)) (kk : W p l e R s m args below meth c H locs cells slots Q (F0 m (pc + 3) ls (.ref (ad 12 0) :: rest))) : W p l e R s m args below meth c H locs cells slots Q (F0 m pc ls (.ref (ad 0 0) :: rest)) :=
  r_get (N := 32) (ci := 9) (T := TX8) (C := RX8) hC hW hin rfl 11 (by decide) hl (fun _ h => h) (by decide) (by decide) rfl rfl hdg kk
theorem mg_at (hC : CX p c cc s m args own Ts Dg cA mcnt ad A) (hW : WP Dg mcnt ad (mE cA ad σ) H) (hin : ∀ w ∈ wsX80, w ∈ Ts) (hl : (Cond.fieldLink own index "KioskReelModel" "at" "[I").before args s = true) (hdg : decode cc pc = .ok (.getfield index, 3)) (kk : W p l e R s m args below meth c H locs cells slots Q (F0 m (pc + 3) ls (.ref (ad 13 0) :: rest))) : W p l e R s m args below meth c H locs cells slots Q (F0 m pc ls (.ref (ad 0 0) :: rest)) :=
  r_get (N := 32) (ci := 9) (T := TX8) (C := RX8) hC hW hin rfl 12 (by decide) hl (fun _ h => h) (by decide) (by decide) rfl rfl hdg kk
theorem mg_counts (hC : CX p c cc s m args own Ts Dg cA mcnt ad A) (hW : WP Dg mcnt ad (mE cA ad σ) H) (hin : ∀ w ∈ wsX80, w ∈ Ts) (hl : (Cond.fieldLink own index "KioskReelModel" "counts" "[I").before args s = true) (hdg : decode cc pc = .ok (.getfield index, 3)) (kk : W p l e R s m args below meth c H locs cells slots Q (F0 m (pc + 3) ls (.ref (ad 14 0) :: rest))) : W p l e R s m args below meth c H locs cells slots Q (F0 m pc ls (.ref (ad 0 0) :: rest)) :=
  r_get (N := 32) (ci := 9) (T := TX8) (C := RX8) hC hW hin rfl 13 (by decide) hl (fun _ h => h) (by decide) (by decide) rfl rfl hdg kk
theorem mg_ticks (hC : CX p c cc s m args own Ts Dg cA mcnt ad A) (hW : WP Dg mcnt ad (mE cA ad σ) H) (hin : ∀ w ∈ wsX80, w ∈ Ts) (hl : (Cond.fieldLink own index "KioskReelModel" "ticks" "[I").before args s = true) (hdg : decode cc pc = .ok (.getfield index, 3)) (kk : W p l e R s m args below meth c H locs cells slots Q (F0 m (pc + 3) ls (.ref (ad 15 0) :: rest))) : W p l e R s m args below meth c H locs cells slots Q (F0 m pc ls (.ref (ad 0 0) :: rest)) :=
  r_get (N := 32) (ci := 9) (T := TX8) (C := RX8) hC hW hin rfl 14 (by decide) hl (fun _ h => h) (by decide) (by decide) rfl rfl hdg kk
theorem mg_wanted (hC : CX p c cc s m args own Ts Dg cA mcnt ad A) (hW : WP Dg mcnt ad (mE cA ad σ) H) (hin : ∀ w ∈ wsX80, w ∈ Ts) (hl : (Cond.fieldLink own index "KioskReelModel" "wanted" "[I").before args s = true) (hdg : decode cc pc = .ok (.getfield index, 3)) (kk : W p l e R s m args below meth c H locs cells slots Q (F0 m (pc + 3) ls (.ref (ad 16 0) :: rest))) : W p l e R s m args below meth c H locs cells slots Q (F0 m pc ls (.ref (ad 0 0) :: rest)) :=
  r_get (N := 32) (ci := 9) (T := TX8) (C := RX8) hC hW hin rfl 15 (by decide) hl (fun _ h => h) (by decide) (by decide) rfl rfl hdg kk
theorem mg_frozenFor (hC : CX p c cc s m args own Ts Dg cA mcnt ad A) (hW : WP Dg mcnt ad (mE cA ad σ) H) (hin : ∀ w ∈ wsX80, w ∈ Ts) (hl : (Cond.fieldLink own index "KioskReelModel" "frozenFor" "[I").before args s = true) (hdg : decode cc pc = .ok (.getfield index, 3)) (kk : W p l e R s m args below meth c H locs cells slots Q (F0 m (pc + 3) ls (.ref (ad 17 0) :: rest))) : W p l e R s m args below meth c H locs cells slots Q (F0 m pc ls (.ref (ad 0 0) :: rest)) :=
  r_get (N := 32) (ci := 9) (T := TX8) (C := RX8) hC hW hin rfl 16 (by decide) hl (fun _ h => h) (by decide) (by decide) rfl rfl hdg kk
theorem mg_slide (hC : CX p c cc s m args own Ts Dg cA mcnt ad A) (hW : WP Dg mcnt ad (mE cA ad σ) H) (hin : ∀ w ∈ wsX80, w ∈ Ts) (hl : (Cond.fieldLink own index "KioskReelModel" "slide" "[I").before args s = true) (hdg : decode cc pc = .ok (.getfield index, 3)) (kk : W p l e R s m args below meth c H locs cells slots Q (F0 m (pc + 3) ls (.ref (ad 18 0) :: rest))) : W p l e R s m args below meth c H locs cells slots Q (F0 m pc ls (.ref (ad 0 0) :: rest)) :=
  r_get (N := 32) (ci := 9) (T := TX8) (C := RX8) hC hW hin rfl 17 (by decide) hl (fun _ h => h) (by decide) (by decide) rfl rfl hdg kk
theorem mg_playing (hC : CX p c cc s m args own Ts Dg cA mcnt ad A) (hW : WP Dg mcnt ad (mE cA ad σ) H) (hin : ∀ w ∈ wsX80, w ∈ Ts) (hl : (Cond.fieldLink own index "KioskReelModel" "playing" "[I").before args s = true) (hdg : decode cc pc = .ok (.getfield index, 3)) (kk : W p l e R s m args below meth c H locs cells slots Q (F0 m (pc + 3) ls (.ref (ad 19 0) :: rest))) : W p l e R s m args below meth c H locs cells slots Q (F0 m pc ls (.ref (ad 0 0) :: rest)) :=
  r_get (N := 32) (ci := 9) (T := TX8) (C := RX8) hC hW hin rfl 18 (by decide) hl (fun _ h => h) (by decide) (by decide) rfl rfl hdg kk
theorem mg_playingMany (hC : CX p c cc s m args own Ts Dg cA mcnt ad A) (hW : WP Dg mcnt ad (mE cA ad σ) H) (hin : ∀ w ∈ wsX80, w ∈ Ts) (hl : (Cond.fieldLink own index "KioskReelModel" "playingMany" "[I").before args s = true) (hdg : decode cc pc = .ok (.getfield index, 3)) (kk : W p l e R s m args below meth c H locs cells slots Q (F0 m (pc + 3) ls (.ref (ad 20 0) :: rest))) : W p l e R s m args below meth c H locs cells slots Q (F0 m pc ls (.ref (ad 0 0) :: rest)) :=
  r_get (N := 32) (ci := 9) (T := TX8) (C := RX8) hC hW hin rfl 19 (by decide) hl (fun _ h => h) (by decide) (by decide) rfl rfl hdg kk
theorem mg_holder (hC : CX p c cc s m args own Ts Dg cA mcnt ad A) (hW : WP Dg mcnt ad (mE cA ad σ) H) (hin : ∀ w ∈ wsX80, w ∈ Ts) (hl : (Cond.fieldLink own index "KioskReelModel" "holder" "[I").before args s = true) (hdg : decode cc pc = .ok (.getfield index, 3)) (kk : W p l e R s m args below meth c H locs cells slots Q (F0 m (pc + 3) ls (.ref (ad 21 0) :: rest))) : W p l e R s m args below meth c H locs cells slots Q (F0 m pc ls (.ref (ad 0 0) :: rest)) :=
  r_get (N := 32) (ci := 9) (T := TX8) (C := RX8) hC hW hin rfl 20 (by decide) hl (fun _ h => h) (by decide) (by decide) rfl rfl hdg kk
theorem mg_queue (hC : CX p c cc s m args own Ts Dg cA mcnt ad A) (hW : WP Dg mcnt ad (mE cA ad σ) H) (hin : ∀ w ∈ wsX80, w ∈ Ts) (hl : (Cond.fieldLink own index "KioskReelModel" "queue" "[I").before args s = true) (hdg : decode cc pc = .ok (.getfield index, 3)) (kk : W p l e R s m args below meth c H locs cells slots Q (F0 m (pc + 3) ls (.ref (ad 22 0) :: rest))) : W p l e R s m args below meth c H locs cells slots Q (F0 m pc ls (.ref (ad 0 0) :: rest)) :=
  r_get (N := 32) (ci := 9) (T := TX8) (C := RX8) hC hW hin rfl 21 (by decide) hl (fun _ h => h) (by decide) (by decide) rfl rfl hdg kk
theorem mg_queueMany (hC : CX p c cc s m args own Ts Dg cA mcnt ad A) (hW : WP Dg mcnt ad (mE cA ad σ) H) (hin : ∀ w ∈ wsX80, w ∈ Ts) (hl : (Cond.fieldLink own index "KioskReelModel" "queueMany" "[I").before args s = true) (hdg : decode cc pc = .ok (.getfield index, 3)) (kk : W p l e R s m args below meth c H locs cells slots Q (F0 m (pc + 3) ls (.ref (ad 23 0) :: rest))) : W p l e R s m args below meth c H locs cells slots Q (F0 m pc ls (.ref (ad 0 0) :: rest)) :=
  r_get (N := 32) (ci := 9) (T := TX8) (C := RX8) hC hW hin rfl 22 (by decide) hl (fun _ h => h) (by decide) (by decide) rfl rfl hdg kk
theorem mg_saw (hC : CX p c cc s m args own Ts Dg cA mcnt ad A) (hW : WP Dg mcnt ad (mE cA ad σ) H) (hin : ∀ w ∈ wsX80, w ∈ Ts) (hl : (Cond.fieldLink own index "KioskReelModel" "saw" "[I").before args s = true) (hdg : decode cc pc = .ok (.getfield index, 3)) (kk : W p l e R s m args below meth c H locs cells slots Q (F0 m (pc + 3) ls (.ref (ad 24 0) :: rest))) : W p l e R s m args below meth c H locs cells slots Q (F0 m pc ls (.ref (ad 0 0) :: rest)) :=
  r_get (N := 32) (ci := 9) (T := TX8) (C := RX8) hC hW hin rfl 23 (by decide) hl (fun _ h => h) (by decide) (by decide) rfl rfl hdg kk
theorem mg_place (hC : CX p c cc s m args own Ts Dg cA mcnt ad A) (hW : WP Dg mcnt ad (mE cA ad σ) H) (hin : ∀ w ∈ wsX80, w ∈ Ts) (hl : (Cond.fieldLink own index "KioskReelModel" "place" "[I").before args s = true) (hdg : decode cc pc = .ok (.getfield index, 3)) (kk : W p l e R s m args below meth c H locs cells slots Q (F0 m (pc + 3) ls (.ref (ad 25 0) :: rest))) : W p l e R s m args below meth c H locs cells slots Q (F0 m pc ls (.ref (ad 0 0) :: rest)) :=
  r_get (N := 32) (ci := 9) (T := TX8) (C := RX8) hC hW hin rfl 24 (by decide) hl (fun _ h => h) (by decide) (by decide) rfl rfl hdg kk
theorem mg_asked (hC : CX p c cc s m args own Ts Dg cA mcnt ad A) (hW : WP Dg mcnt ad (mE cA ad σ) H) (hin : ∀ w ∈ wsX80, w ∈ Ts) (hl : (Cond.fieldLink own index "KioskReelModel" "asked" "[Z").before args s = true) (hdg : decode cc pc = .ok (.getfield index, 3)) (kk : W p l e R s m args below meth c H locs cells slots Q (F0 m (pc + 3) ls (.ref (ad 26 0) :: rest))) : W p l e R s m args below meth c H locs cells slots Q (F0 m pc ls (.ref (ad 0 0) :: rest)) :=
  r_get (N := 32) (ci := 9) (T := TX8) (C := RX8) hC hW hin rfl 25 (by decide) hl (fun _ h => h) (by decide) (by decide) rfl rfl hdg kk
theorem mg_lists_f (hC : CX p c cc s m args own Ts Dg cA mcnt ad A) (hW : WP Dg mcnt ad (mE cA ad σ) H) (hin : ∀ w ∈ wsX80, w ∈ Ts) (hl : (Cond.fieldLink own index "KioskReelModel" "lists" "I").before args s = true) {v : Int} (hv : σ 26 0 0 = v) (hdg : decode cc pc = .ok (.getfield index, 3)) (kk : W p l e R s m args below meth c H locs cells slots Q (F0 m (pc + 3) ls (.int (zi v) :: rest))) : W p l e R s m args below meth c H locs cells slots Q (F0 m pc ls (.ref (ad 0 0) :: rest)) :=
  r_get (N := 32) (ci := 9) (T := TX8) (C := RX8) hC hW hin rfl 26 (by decide) hl (fun _ h => h) (by decide) (by decide) rfl rfl hdg (by rw [hv]; exact kk)
theorem mp_lists_f (hC : CX p c cc s m args own Ts Dg cA mcnt ad A) (hW : WP Dg mcnt ad (mE cA ad σ) H) (hin : ∀ w ∈ wsX80, w ∈ Ts) (hl : (Cond.fieldLink own index "KioskReelModel" "lists" "I").before args s = true) (hS : va_S A H0 H locs) {v : Int} (hdg : decode cc pc = .ok (.putfield index, 3)) (kk : ∀ (H1 : Heap) (locs1 : List Loc), WP Dg mcnt ad (mE cA ad (ups σ 26 0 0 v)) H1 → va_S A H0 H1 locs1 → W p l e R s m args below meth c H1 locs1 cells slots Q (F0 m (pc + 3) ls rest)) : W p l e R s m args below meth c H locs cells slots Q (F0 m pc ls (.int (zi v) :: .ref (ad 0 0) :: rest)) :=
  r_put (N := 32) (ci := 9) (T := TX8) (C := RX8) (ty := .int) hC hW hS hin tyX8 tyX8_ok nmX8 rfl 26 (by decide) hl (fun _ h => h) rfl (by decide +kernel) rfl rfl (by decide) (by decide) rfl (Nat.le_of_ble_eq_true rfl) rfl hdg (fun H1 locs1 hW1 hS1 => kk H1 locs1 (mE_ups 26 0 0 v rfl (Or.inl rfl) hW1) hS1)
theorem mg_kiosks_f (hC : CX p c cc s m args own Ts Dg cA mcnt ad A) (hW : WP Dg mcnt ad (mE cA ad σ) H) (hin : ∀ w ∈ wsX80, w ∈ Ts) (hl : (Cond.fieldLink own index "KioskReelModel" "kiosks" "I").before args s = true) {v : Int} (hv : σ 27 0 0 = v) (hdg : decode cc pc = .ok (.getfield index, 3)) (kk : W p l e R s m args below meth c H locs cells slots Q (F0 m (pc + 3) ls (.int (zi v) :: rest))) : W p l e R s m args below meth c H locs cells slots Q (F0 m pc ls (.ref (ad 0 0) :: rest)) :=
  r_get (N := 32) (ci := 9) (T := TX8) (C := RX8) hC hW hin rfl 27 (by decide) hl (fun _ h => h) (by decide) (by decide) rfl rfl hdg (by rw [hv]; exact kk)
theorem mp_kiosks_f (hC : CX p c cc s m args own Ts Dg cA mcnt ad A) (hW : WP Dg mcnt ad (mE cA ad σ) H) (hin : ∀ w ∈ wsX80, w ∈ Ts) (hl : (Cond.fieldLink own index "KioskReelModel" "kiosks" "I").before args s = true) (hS : va_S A H0 H locs) {v : Int} (hdg : decode cc pc = .ok (.putfield index, 3)) (kk : ∀ (H1 : Heap) (locs1 : List Loc), WP Dg mcnt ad (mE cA ad (ups σ 27 0 0 v)) H1 → va_S A H0 H1 locs1 → W p l e R s m args below meth c H1 locs1 cells slots Q (F0 m (pc + 3) ls rest)) : W p l e R s m args below meth c H locs cells slots Q (F0 m pc ls (.int (zi v) :: .ref (ad 0 0) :: rest)) :=
  r_put (N := 32) (ci := 9) (T := TX8) (C := RX8) (ty := .int) hC hW hS hin tyX8 tyX8_ok nmX8 rfl 27 (by decide) hl (fun _ h => h) rfl (by decide +kernel) rfl rfl (by decide) (by decide) rfl (Nat.le_of_ble_eq_true rfl) rfl hdg (fun H1 locs1 hW1 hS1 => kk H1 locs1 (mE_ups 27 0 0 v rfl (Or.inl rfl) hW1) hS1)
theorem mg_visitors_f (hC : CX p c cc s m args own Ts Dg cA mcnt ad A) (hW : WP Dg mcnt ad (mE cA ad σ) H) (hin : ∀ w ∈ wsX80, w ∈ Ts) (hl : (Cond.fieldLink own index "KioskReelModel" "visitors" "I").before args s = true) {v : Int} (hv : σ 28 0 0 = v) (hdg : decode cc pc = .ok (.getfield index, 3)) (kk : W p l e R s m args below meth c H locs cells slots Q (F0 m (pc + 3) ls (.int (zi v) :: rest))) : W p l e R s m args below meth c H locs cells slots Q (F0 m pc ls (.ref (ad 0 0) :: rest)) :=
  r_get (N := 32) (ci := 9) (T := TX8) (C := RX8) hC hW hin rfl 28 (by decide) hl (fun _ h => h) (by decide) (by decide) rfl rfl hdg (by rw [hv]; exact kk)
theorem mp_visitors_f (hC : CX p c cc s m args own Ts Dg cA mcnt ad A) (hW : WP Dg mcnt ad (mE cA ad σ) H) (hin : ∀ w ∈ wsX80, w ∈ Ts) (hl : (Cond.fieldLink own index "KioskReelModel" "visitors" "I").before args s = true) (hS : va_S A H0 H locs) {v : Int} (hdg : decode cc pc = .ok (.putfield index, 3)) (kk : ∀ (H1 : Heap) (locs1 : List Loc), WP Dg mcnt ad (mE cA ad (ups σ 28 0 0 v)) H1 → va_S A H0 H1 locs1 → W p l e R s m args below meth c H1 locs1 cells slots Q (F0 m (pc + 3) ls rest)) : W p l e R s m args below meth c H locs cells slots Q (F0 m pc ls (.int (zi v) :: .ref (ad 0 0) :: rest)) :=
  r_put (N := 32) (ci := 9) (T := TX8) (C := RX8) (ty := .int) hC hW hS hin tyX8 tyX8_ok nmX8 rfl 28 (by decide) hl (fun _ h => h) rfl (by decide +kernel) rfl rfl (by decide) (by decide) rfl (Nat.le_of_ble_eq_true rfl) rfl hdg (fun H1 locs1 hW1 hS1 => kk H1 locs1 (mE_ups 28 0 0 v rfl (Or.inl rfl) hW1) hS1)
theorem mg_shown_f (hC : CX p c cc s m args own Ts Dg cA mcnt ad A) (hW : WP Dg mcnt ad (mE cA ad σ) H) (hin : ∀ w ∈ wsX80, w ∈ Ts) (hl : (Cond.fieldLink own index "KioskReelModel" "shown" "I").before args s = true) {v : Int} (hv : σ 30 0 0 = v) (hdg : decode cc pc = .ok (.getfield index, 3)) (kk : W p l e R s m args below meth c H locs cells slots Q (F0 m (pc + 3) ls (.int (zi v) :: rest))) : W p l e R s m args below meth c H locs cells slots Q (F0 m pc ls (.ref (ad 0 0) :: rest)) :=
  r_get (N := 32) (ci := 9) (T := TX8) (C := RX8) hC hW hin rfl 29 (by decide) hl (fun _ h => h) (by decide) (by decide) rfl rfl hdg (by rw [hv]; exact kk)
theorem mp_shown_f (hC : CX p c cc s m args own Ts Dg cA mcnt ad A) (hW : WP Dg mcnt ad (mE cA ad σ) H) (hin : ∀ w ∈ wsX80, w ∈ Ts) (hl : (Cond.fieldLink own index "KioskReelModel" "shown" "I").before args s = true) (hS : va_S A H0 H locs) {v : Int} (hdg : decode cc pc = .ok (.putfield index, 3)) (kk : ∀ (H1 : Heap) (locs1 : List Loc), WP Dg mcnt ad (mE cA ad (ups σ 30 0 0 v)) H1 → va_S A H0 H1 locs1 → W p l e R s m args below meth c H1 locs1 cells slots Q (F0 m (pc + 3) ls rest)) : W p l e R s m args below meth c H locs cells slots Q (F0 m pc ls (.int (zi v) :: .ref (ad 0 0) :: rest)) :=
  r_put (N := 32) (ci := 9) (T := TX8) (C := RX8) (ty := .int) hC hW hS hin tyX8 tyX8_ok nmX8 rfl 29 (by decide) hl (fun _ h => h) rfl (by decide +kernel) rfl rfl (by decide) (by decide) rfl (Nat.le_of_ble_eq_true rfl) rfl hdg (fun H1 locs1 hW1 hS1 => kk H1 locs1 (mE_ups 30 0 0 v rfl (Or.inl rfl) hW1) hS1)
theorem mg_thrown_f (hC : CX p c cc s m args own Ts Dg cA mcnt ad A) (hW : WP Dg mcnt ad (mE cA ad σ) H) (hin : ∀ w ∈ wsX80, w ∈ Ts) (hl : (Cond.fieldLink own index "KioskReelModel" "thrown" "I").before args s = true) {v : Int} (hv : σ 31 0 0 = v) (hdg : decode cc pc = .ok (.getfield index, 3)) (kk : W p l e R s m args below meth c H locs cells slots Q (F0 m (pc + 3) ls (.int (zi v) :: rest))) : W p l e R s m args below meth c H locs cells slots Q (F0 m pc ls (.ref (ad 0 0) :: rest)) :=
  r_get (N := 32) (ci := 9) (T := TX8) (C := RX8) hC hW hin rfl 30 (by decide) hl (fun _ h => h) (by decide) (by decide) rfl rfl hdg (by rw [hv]; exact kk)
theorem mp_thrown_f (hC : CX p c cc s m args own Ts Dg cA mcnt ad A) (hW : WP Dg mcnt ad (mE cA ad σ) H) (hin : ∀ w ∈ wsX80, w ∈ Ts) (hl : (Cond.fieldLink own index "KioskReelModel" "thrown" "I").before args s = true) (hS : va_S A H0 H locs) {v : Int} (hdg : decode cc pc = .ok (.putfield index, 3)) (kk : ∀ (H1 : Heap) (locs1 : List Loc), WP Dg mcnt ad (mE cA ad (ups σ 31 0 0 v)) H1 → va_S A H0 H1 locs1 → W p l e R s m args below meth c H1 locs1 cells slots Q (F0 m (pc + 3) ls rest)) : W p l e R s m args below meth c H locs cells slots Q (F0 m pc ls (.int (zi v) :: .ref (ad 0 0) :: rest)) :=
  r_put (N := 32) (ci := 9) (T := TX8) (C := RX8) (ty := .int) hC hW hS hin tyX8 tyX8_ok nmX8 rfl 30 (by decide) hl (fun _ h => h) rfl (by decide +kernel) rfl rfl (by decide) (by decide) rfl (Nat.le_of_ble_eq_true rfl) rfl hdg (fun H1 locs1 hW1 hS1 => kk H1 locs1 (mE_ups 31 0 0 v rfl (Or.inl rfl) hW1) hS1)
theorem mg_done_f (hC : CX p c cc s m args own Ts Dg cA mcnt ad A) (hW : WP Dg mcnt ad (mE cA ad σ) H) (hin : ∀ w ∈ wsX80, w ∈ Ts) (hl : (Cond.fieldLink own index "KioskReelModel" "done" "J").before args s = true) {v : Int} (hv : σ 29 0 0 = v) (hdg : decode cc pc = .ok (.getfield index, 3)) (kk : W p l e R s m args below meth c H locs cells slots Q (F0 m (pc + 3) ls (.long (zl v) :: rest))) : W p l e R s m args below meth c H locs cells slots Q (F0 m pc ls (.ref (ad 0 0) :: rest)) :=
  r_get (N := 32) (ci := 9) (T := TX8) (C := RX8) hC hW hin rfl 31 (by decide) hl (fun _ h => h) (by decide) (by decide) rfl rfl hdg (by rw [hv]; exact kk)
theorem mp_done_f (hC : CX p c cc s m args own Ts Dg cA mcnt ad A) (hW : WP Dg mcnt ad (mE cA ad σ) H) (hin : ∀ w ∈ wsX80, w ∈ Ts) (hl : (Cond.fieldLink own index "KioskReelModel" "done" "J").before args s = true) (hS : va_S A H0 H locs) {v : Int} (hdg : decode cc pc = .ok (.putfield index, 3)) (kk : ∀ (H1 : Heap) (locs1 : List Loc), WP Dg mcnt ad (mE cA ad (ups σ 29 0 0 v)) H1 → va_S A H0 H1 locs1 → W p l e R s m args below meth c H1 locs1 cells slots Q (F0 m (pc + 3) ls rest)) : W p l e R s m args below meth c H locs cells slots Q (F0 m pc ls (.long (zl v) :: .ref (ad 0 0) :: rest)) :=
  r_put (N := 32) (ci := 9) (T := TX8) (C := RX8) (ty := .long) hC hW hS hin tyX8 tyX8_ok nmX8 rfl 31 (by decide) hl (fun _ h => h) rfl (by decide +kernel) rfl rfl (by decide) (by decide) rfl (Nat.le_of_ble_eq_true rfl) rfl hdg (fun H1 locs1 hW1 hS1 => kk H1 locs1 (mE_ups 29 0 0 v rfl (Or.inl rfl) hW1) hS1)
theorem ma_many (hC : CX p c cc s m args own Ts Dg cA mcnt ad A) (hW : WP Dg mcnt ad (mE cA ad σ) H) {x : Int} (hx : 0 ≤ x ∧ x < 8) {v : Int} (hv : σ 3 x 0 = v) (hdg : decode cc pc = .ok (.iaload, 1)) (kk : W p l e R s m args below meth c H locs cells slots Q (F0 m (pc + 1) ls (.int (zi v) :: rest))) : W p l e R s m args below meth c H locs cells slots Q (F0 m pc ls (.int (zi x) :: .ref (ad 1 0) :: rest)) := by
  refine r_iald (n := 8) (g := fun j => σ 3 j 0) hC hW (by decide) (by decide) rfl (by decide) hx hdg ?_
  simp only [hv]
  exact kk
theorem ms_many (hC : CX p c cc s m args own Ts Dg cA mcnt ad A) (hW : WP Dg mcnt ad (mE cA ad σ) H) {x : Int} (hx : 0 ≤ x ∧ x < 8) (hS : va_S A H0 H locs) {v : Int} (hdg : decode cc pc = .ok (.iastore, 1)) (kk : ∀ (H1 : Heap) (locs1 : List Loc), WP Dg mcnt ad (mE cA ad (ups σ 3 x 0 v)) H1 → va_S A H0 H1 locs1 → W p l e R s m args below meth c H1 locs1 cells slots Q (F0 m (pc + 1) ls rest)) : W p l e R s m args below meth c H locs cells slots Q (F0 m pc ls (.int (zi v) :: .int (zi x) :: .ref (ad 1 0) :: rest)) := by
  refine r_iast (n := 8) (g := fun j => σ 3 j 0) hC hW hS (by decide) (by decide) (fun j => ups σ 3 x 0 v 3 j 0) rfl (by decide) hx (fun j h8 h9 => ?_) rfl hdg (fun H1 locs1 hW1 hS1 => kk H1 locs1 (mE_ups 3 x 0 v (by first | rfl | (simp only [mow]; rw [if_pos (by omega)]) | (simp only [mow]; rw [if_neg (by omega)])) veq.rf hW1) hS1)
  show ups σ 3 x 0 v 3 j 0 = if j = x then v else σ 3 j 0
  unfold ups
  by_cases hj : j = x
  · rw [if_pos hj]
    exact if_pos ⟨rfl, by omega, by omega⟩
  · rw [if_neg hj]
    exact if_neg (fun z => hj (by have z1 := z.2.1; have z2 := z.2.2; omega))
theorem ma_kind (hC : CX p c cc s m args own Ts Dg cA mcnt ad A) (hW : WP Dg mcnt ad (mE cA ad σ) H) {x : Int} (a b : Int) (he : x = 20 * a + b) (ha : 0 ≤ a ∧ a < 8) (hb : 0 ≤ b ∧ b < 20) {v : Int} (hv : σ 1 a b = v) (hdg : decode cc pc = .ok (.iaload, 1)) (kk : W p l e R s m args below meth c H locs cells slots Q (F0 m (pc + 1) ls (.int (zi v) :: rest))) : W p l e R s m args below meth c H locs cells slots Q (F0 m pc ls (.int (zi x) :: .ref (ad 2 0) :: rest)) := by
  refine r_iald (n := 160) (g := fun j => σ 1 (j / 20) (j % 20)) hC hW (by decide) (by decide) rfl (by decide) (by omega) hdg ?_
  have e1 : x / 20 = a := by omega
  have e2 : x % 20 = b := by omega
  simp only [e1, e2, hv]
  exact kk
theorem ms_kind (hC : CX p c cc s m args own Ts Dg cA mcnt ad A) (hW : WP Dg mcnt ad (mE cA ad σ) H) {x : Int} (a b : Int) (he : x = 20 * a + b) (ha : 0 ≤ a ∧ a < 8) (hb : 0 ≤ b ∧ b < 20) (hS : va_S A H0 H locs) {v : Int} (hdg : decode cc pc = .ok (.iastore, 1)) (kk : ∀ (H1 : Heap) (locs1 : List Loc), WP Dg mcnt ad (mE cA ad (ups σ 1 a b v)) H1 → va_S A H0 H1 locs1 → W p l e R s m args below meth c H1 locs1 cells slots Q (F0 m (pc + 1) ls rest)) : W p l e R s m args below meth c H locs cells slots Q (F0 m pc ls (.int (zi v) :: .int (zi x) :: .ref (ad 2 0) :: rest)) := by
  refine r_iast (n := 160) (g := fun j => σ 1 (j / 20) (j % 20)) hC hW hS (by decide) (by decide) (fun j => ups σ 1 a b v 1 (j / 20) (j % 20)) rfl (by decide) (by omega) (fun j h8 h9 => ?_) rfl hdg (fun H1 locs1 hW1 hS1 => kk H1 locs1 (mE_ups 1 a b v (by first | rfl | (simp only [mow]; rw [if_pos (by omega)]) | (simp only [mow]; rw [if_neg (by omega)])) veq.rf hW1) hS1)
  show ups σ 1 a b v 1 (j / 20) (j % 20) = if j = x then v else σ 1 (j / 20) (j % 20)
  unfold ups
  by_cases hj : j = x
  · rw [if_pos hj]
    exact if_pos ⟨rfl, by omega, by omega⟩
  · rw [if_neg hj]
    exact if_neg (fun z => hj (by have z1 := z.2.1; have z2 := z.2.2; omega))
theorem ma_number (hC : CX p c cc s m args own Ts Dg cA mcnt ad A) (hW : WP Dg mcnt ad (mE cA ad σ) H) {x : Int} (a b : Int) (he : x = 20 * a + b) (ha : 0 ≤ a ∧ a < 8) (hb : 0 ≤ b ∧ b < 20) {v : Int} (hv : σ 2 a b = v) (hdg : decode cc pc = .ok (.iaload, 1)) (kk : W p l e R s m args below meth c H locs cells slots Q (F0 m (pc + 1) ls (.int (zi v) :: rest))) : W p l e R s m args below meth c H locs cells slots Q (F0 m pc ls (.int (zi x) :: .ref (ad 3 0) :: rest)) := by
  refine r_iald (n := 160) (g := fun j => σ 2 (j / 20) (j % 20)) hC hW (by decide) (by decide) rfl (by decide) (by omega) hdg ?_
  have e1 : x / 20 = a := by omega
  have e2 : x % 20 = b := by omega
  simp only [e1, e2, hv]
  exact kk
theorem ms_number (hC : CX p c cc s m args own Ts Dg cA mcnt ad A) (hW : WP Dg mcnt ad (mE cA ad σ) H) {x : Int} (a b : Int) (he : x = 20 * a + b) (ha : 0 ≤ a ∧ a < 8) (hb : 0 ≤ b ∧ b < 20) (hS : va_S A H0 H locs) {v : Int} (hdg : decode cc pc = .ok (.iastore, 1)) (kk : ∀ (H1 : Heap) (locs1 : List Loc), WP Dg mcnt ad (mE cA ad (ups σ 2 a b v)) H1 → va_S A H0 H1 locs1 → W p l e R s m args below meth c H1 locs1 cells slots Q (F0 m (pc + 1) ls rest)) : W p l e R s m args below meth c H locs cells slots Q (F0 m pc ls (.int (zi v) :: .int (zi x) :: .ref (ad 3 0) :: rest)) := by
  refine r_iast (n := 160) (g := fun j => σ 2 (j / 20) (j % 20)) hC hW hS (by decide) (by decide) (fun j => ups σ 2 a b v 2 (j / 20) (j % 20)) rfl (by decide) (by omega) (fun j h8 h9 => ?_) rfl hdg (fun H1 locs1 hW1 hS1 => kk H1 locs1 (mE_ups 2 a b v (by first | rfl | (simp only [mow]; rw [if_pos (by omega)]) | (simp only [mow]; rw [if_neg (by omega)])) veq.rf hW1) hS1)
  show ups σ 2 a b v 2 (j / 20) (j % 20) = if j = x then v else σ 2 (j / 20) (j % 20)
  unfold ups
  by_cases hj : j = x
  · rw [if_pos hj]
    exact if_pos ⟨rfl, by omega, by omega⟩
  · rw [if_neg hj]
    exact if_neg (fun z => hj (by have z1 := z.2.1; have z2 := z.2.2; omega))
theorem ma_pileMany (hC : CX p c cc s m args own Ts Dg cA mcnt ad A) (hW : WP Dg mcnt ad (mE cA ad σ) H) {x : Int} (hx : 0 ≤ x ∧ x < 24) {v : Int} (hv : σ 3 (8 + x) 0 = v) (hdg : decode cc pc = .ok (.iaload, 1)) (kk : W p l e R s m args below meth c H locs cells slots Q (F0 m (pc + 1) ls (.int (zi v) :: rest))) : W p l e R s m args below meth c H locs cells slots Q (F0 m pc ls (.int (zi x) :: .ref (ad 4 0) :: rest)) := by
  refine r_iald (n := 24) (g := fun j => σ 3 (8 + j) 0) hC hW (by decide) (by decide) rfl (by decide) hx hdg ?_
  simp only [hv]
  exact kk
theorem ms_pileMany (hC : CX p c cc s m args own Ts Dg cA mcnt ad A) (hW : WP Dg mcnt ad (mE cA ad σ) H) {x : Int} (hx : 0 ≤ x ∧ x < 24) (hS : va_S A H0 H locs) {v : Int} (hdg : decode cc pc = .ok (.iastore, 1)) (kk : ∀ (H1 : Heap) (locs1 : List Loc), WP Dg mcnt ad (mE cA ad (ups σ 3 (8 + x) 0 v)) H1 → va_S A H0 H1 locs1 → W p l e R s m args below meth c H1 locs1 cells slots Q (F0 m (pc + 1) ls rest)) : W p l e R s m args below meth c H locs cells slots Q (F0 m pc ls (.int (zi v) :: .int (zi x) :: .ref (ad 4 0) :: rest)) := by
  refine r_iast (n := 24) (g := fun j => σ 3 (8 + j) 0) hC hW hS (by decide) (by decide) (fun j => ups σ 3 (8 + x) 0 v 3 (8 + j) 0) rfl (by decide) hx (fun j h8 h9 => ?_) rfl hdg (fun H1 locs1 hW1 hS1 => kk H1 locs1 (mE_ups 3 (8 + x) 0 v (by first | rfl | (simp only [mow]; rw [if_pos (by omega)]) | (simp only [mow]; rw [if_neg (by omega)])) veq.rf hW1) hS1)
  show ups σ 3 (8 + x) 0 v 3 (8 + j) 0 = if j = x then v else σ 3 (8 + j) 0
  unfold ups
  by_cases hj : j = x
  · rw [if_pos hj]
    exact if_pos ⟨rfl, by omega, by omega⟩
  · rw [if_neg hj]
    exact if_neg (fun z => hj (by have z1 := z.2.1; have z2 := z.2.2; omega))
theorem ma_pileKind (hC : CX p c cc s m args own Ts Dg cA mcnt ad A) (hW : WP Dg mcnt ad (mE cA ad σ) H) {x : Int} (a b : Int) (he : x = 20 * a + b) (ha : 0 ≤ a ∧ a < 24) (hb : 0 ≤ b ∧ b < 20) {v : Int} (hv : σ 1 (8 + a) b = v) (hdg : decode cc pc = .ok (.iaload, 1)) (kk : W p l e R s m args below meth c H locs cells slots Q (F0 m (pc + 1) ls (.int (zi v) :: rest))) : W p l e R s m args below meth c H locs cells slots Q (F0 m pc ls (.int (zi x) :: .ref (ad 5 0) :: rest)) := by
  refine r_iald (n := 480) (g := fun j => σ 1 (8 + j / 20) (j % 20)) hC hW (by decide) (by decide) rfl (by decide) (by omega) hdg ?_
  have e1 : x / 20 = a := by omega
  have e2 : x % 20 = b := by omega
  simp only [e1, e2, hv]
  exact kk
theorem ms_pileKind (hC : CX p c cc s m args own Ts Dg cA mcnt ad A) (hW : WP Dg mcnt ad (mE cA ad σ) H) {x : Int} (a b : Int) (he : x = 20 * a + b) (ha : 0 ≤ a ∧ a < 24) (hb : 0 ≤ b ∧ b < 20) (hS : va_S A H0 H locs) {v : Int} (hdg : decode cc pc = .ok (.iastore, 1)) (kk : ∀ (H1 : Heap) (locs1 : List Loc), WP Dg mcnt ad (mE cA ad (ups σ 1 (8 + a) b v)) H1 → va_S A H0 H1 locs1 → W p l e R s m args below meth c H1 locs1 cells slots Q (F0 m (pc + 1) ls rest)) : W p l e R s m args below meth c H locs cells slots Q (F0 m pc ls (.int (zi v) :: .int (zi x) :: .ref (ad 5 0) :: rest)) := by
  refine r_iast (n := 480) (g := fun j => σ 1 (8 + j / 20) (j % 20)) hC hW hS (by decide) (by decide) (fun j => ups σ 1 (8 + a) b v 1 (8 + j / 20) (j % 20)) rfl (by decide) (by omega) (fun j h8 h9 => ?_) rfl hdg (fun H1 locs1 hW1 hS1 => kk H1 locs1 (mE_ups 1 (8 + a) b v (by first | rfl | (simp only [mow]; rw [if_pos (by omega)]) | (simp only [mow]; rw [if_neg (by omega)])) veq.rf hW1) hS1)
  show ups σ 1 (8 + a) b v 1 (8 + j / 20) (j % 20) = if j = x then v else σ 1 (8 + j / 20) (j % 20)
  unfold ups
  by_cases hj : j = x
  · rw [if_pos hj]
    exact if_pos ⟨rfl, by omega, by omega⟩
  · rw [if_neg hj]
    exact if_neg (fun z => hj (by have z1 := z.2.1; have z2 := z.2.2; omega))
theorem ma_pileNumber (hC : CX p c cc s m args own Ts Dg cA mcnt ad A) (hW : WP Dg mcnt ad (mE cA ad σ) H) {x : Int} (a b : Int) (he : x = 20 * a + b) (ha : 0 ≤ a ∧ a < 24) (hb : 0 ≤ b ∧ b < 20) {v : Int} (hv : σ 2 (8 + a) b = v) (hdg : decode cc pc = .ok (.iaload, 1)) (kk : W p l e R s m args below meth c H locs cells slots Q (F0 m (pc + 1) ls (.int (zi v) :: rest))) : W p l e R s m args below meth c H locs cells slots Q (F0 m pc ls (.int (zi x) :: .ref (ad 6 0) :: rest)) := by
  refine r_iald (n := 480) (g := fun j => σ 2 (8 + j / 20) (j % 20)) hC hW (by decide) (by decide) rfl (by decide) (by omega) hdg ?_
  have e1 : x / 20 = a := by omega
  have e2 : x % 20 = b := by omega
  simp only [e1, e2, hv]
  exact kk
theorem ms_pileNumber (hC : CX p c cc s m args own Ts Dg cA mcnt ad A) (hW : WP Dg mcnt ad (mE cA ad σ) H) {x : Int} (a b : Int) (he : x = 20 * a + b) (ha : 0 ≤ a ∧ a < 24) (hb : 0 ≤ b ∧ b < 20) (hS : va_S A H0 H locs) {v : Int} (hdg : decode cc pc = .ok (.iastore, 1)) (kk : ∀ (H1 : Heap) (locs1 : List Loc), WP Dg mcnt ad (mE cA ad (ups σ 2 (8 + a) b v)) H1 → va_S A H0 H1 locs1 → W p l e R s m args below meth c H1 locs1 cells slots Q (F0 m (pc + 1) ls rest)) : W p l e R s m args below meth c H locs cells slots Q (F0 m pc ls (.int (zi v) :: .int (zi x) :: .ref (ad 6 0) :: rest)) := by
  refine r_iast (n := 480) (g := fun j => σ 2 (8 + j / 20) (j % 20)) hC hW hS (by decide) (by decide) (fun j => ups σ 2 (8 + a) b v 2 (8 + j / 20) (j % 20)) rfl (by decide) (by omega) (fun j h8 h9 => ?_) rfl hdg (fun H1 locs1 hW1 hS1 => kk H1 locs1 (mE_ups 2 (8 + a) b v (by first | rfl | (simp only [mow]; rw [if_pos (by omega)]) | (simp only [mow]; rw [if_neg (by omega)])) veq.rf hW1) hS1)
  show ups σ 2 (8 + a) b v 2 (8 + j / 20) (j % 20) = if j = x then v else σ 2 (8 + j / 20) (j % 20)
  unfold ups
  by_cases hj : j = x
  · rw [if_pos hj]
    exact if_pos ⟨rfl, by omega, by omega⟩
  · rw [if_neg hj]
    exact if_neg (fun z => hj (by have z1 := z.2.1; have z2 := z.2.2; omega))
theorem ma_pileList (hC : CX p c cc s m args own Ts Dg cA mcnt ad A) (hW : WP Dg mcnt ad (mE cA ad σ) H) {x : Int} (a b : Int) (he : x = 4 * a + b) (ha : 0 ≤ a ∧ a < 6) (hb : 0 ≤ b ∧ b < 4) {v : Int} (hv : σ 7 a b = v) (hdg : decode cc pc = .ok (.iaload, 1)) (kk : W p l e R s m args below meth c H locs cells slots Q (F0 m (pc + 1) ls (.int (zi v) :: rest))) : W p l e R s m args below meth c H locs cells slots Q (F0 m pc ls (.int (zi x) :: .ref (ad 7 0) :: rest)) := by
  refine r_iald (n := 24) (g := fun j => σ 7 (j / 4) (j % 4)) hC hW (by decide) (by decide) rfl (by decide) (by omega) hdg ?_
  have e1 : x / 4 = a := by omega
  have e2 : x % 4 = b := by omega
  simp only [e1, e2, hv]
  exact kk
theorem ms_pileList (hC : CX p c cc s m args own Ts Dg cA mcnt ad A) (hW : WP Dg mcnt ad (mE cA ad σ) H) {x : Int} (a b : Int) (he : x = 4 * a + b) (ha : 0 ≤ a ∧ a < 6) (hb : 0 ≤ b ∧ b < 4) (hS : va_S A H0 H locs) {v : Int} (hdg : decode cc pc = .ok (.iastore, 1)) (kk : ∀ (H1 : Heap) (locs1 : List Loc), WP Dg mcnt ad (mE cA ad (ups σ 7 a b v)) H1 → va_S A H0 H1 locs1 → W p l e R s m args below meth c H1 locs1 cells slots Q (F0 m (pc + 1) ls rest)) : W p l e R s m args below meth c H locs cells slots Q (F0 m pc ls (.int (zi v) :: .int (zi x) :: .ref (ad 7 0) :: rest)) := by
  refine r_iast (n := 24) (g := fun j => σ 7 (j / 4) (j % 4)) hC hW hS (by decide) (by decide) (fun j => ups σ 7 a b v 7 (j / 4) (j % 4)) rfl (by decide) (by omega) (fun j h8 h9 => ?_) rfl hdg (fun H1 locs1 hW1 hS1 => kk H1 locs1 (mE_ups 7 a b v (by first | rfl | (simp only [mow]; rw [if_pos (by omega)]) | (simp only [mow]; rw [if_neg (by omega)])) veq.rf hW1) hS1)
  show ups σ 7 a b v 7 (j / 4) (j % 4) = if j = x then v else σ 7 (j / 4) (j % 4)
  unfold ups
  by_cases hj : j = x
  · rw [if_pos hj]
    exact if_pos ⟨rfl, by omega, by omega⟩
  · rw [if_neg hj]
    exact if_neg (fun z => hj (by have z1 := z.2.1; have z2 := z.2.2; omega))
theorem ma_pileNext (hC : CX p c cc s m args own Ts Dg cA mcnt ad A) (hW : WP Dg mcnt ad (mE cA ad σ) H) {x : Int} (a b : Int) (he : x = 4 * a + b) (ha : 0 ≤ a ∧ a < 6) (hb : 0 ≤ b ∧ b < 4) {v : Int} (hv : σ 4 a b = v) (hdg : decode cc pc = .ok (.iaload, 1)) (kk : W p l e R s m args below meth c H locs cells slots Q (F0 m (pc + 1) ls (.int (zi v) :: rest))) : W p l e R s m args below meth c H locs cells slots Q (F0 m pc ls (.int (zi x) :: .ref (ad 8 0) :: rest)) := by
  refine r_iald (n := 24) (g := fun j => σ 4 (j / 4) (j % 4)) hC hW (by decide) (by decide) rfl (by decide) (by omega) hdg ?_
  have e1 : x / 4 = a := by omega
  have e2 : x % 4 = b := by omega
  simp only [e1, e2, hv]
  exact kk
theorem ms_pileNext (hC : CX p c cc s m args own Ts Dg cA mcnt ad A) (hW : WP Dg mcnt ad (mE cA ad σ) H) {x : Int} (a b : Int) (he : x = 4 * a + b) (ha : 0 ≤ a ∧ a < 6) (hb : 0 ≤ b ∧ b < 4) (hS : va_S A H0 H locs) {v : Int} (hdg : decode cc pc = .ok (.iastore, 1)) (kk : ∀ (H1 : Heap) (locs1 : List Loc), WP Dg mcnt ad (mE cA ad (ups σ 4 a b v)) H1 → va_S A H0 H1 locs1 → W p l e R s m args below meth c H1 locs1 cells slots Q (F0 m (pc + 1) ls rest)) : W p l e R s m args below meth c H locs cells slots Q (F0 m pc ls (.int (zi v) :: .int (zi x) :: .ref (ad 8 0) :: rest)) := by
  refine r_iast (n := 24) (g := fun j => σ 4 (j / 4) (j % 4)) hC hW hS (by decide) (by decide) (fun j => ups σ 4 a b v 4 (j / 4) (j % 4)) rfl (by decide) (by omega) (fun j h8 h9 => ?_) rfl hdg (fun H1 locs1 hW1 hS1 => kk H1 locs1 (mE_ups 4 a b v (by first | rfl | (simp only [mow]; rw [if_pos (by omega)]) | (simp only [mow]; rw [if_neg (by omega)])) veq.rf hW1) hS1)
  show ups σ 4 a b v 4 (j / 4) (j % 4) = if j = x then v else σ 4 (j / 4) (j % 4)
  unfold ups
  by_cases hj : j = x
  · rw [if_pos hj]
    exact if_pos ⟨rfl, by omega, by omega⟩
  · rw [if_neg hj]
    exact if_neg (fun z => hj (by have z1 := z.2.1; have z2 := z.2.2; omega))
theorem ma_hasPlayer (hC : CX p c cc s m args own Ts Dg cA mcnt ad A) (hW : WP Dg mcnt ad (mE cA ad σ) H) {x : Int} (hx : 0 ≤ x ∧ x < 6) {v : Int} (hv : σ 6 x 0 = v) (hdg : decode cc pc = .ok (.baload, 1)) (kk : W p l e R s m args below meth c H locs cells slots Q (F0 m (pc + 1) ls (.int (zi v) :: rest))) : W p l e R s m args below meth c H locs cells slots Q (F0 m pc ls (.int (zi x) :: .ref (ad 9 0) :: rest)) := by
  refine r_zald (n := 6) (g := fun j => σ 6 j 0) hC hW (by decide) (by decide) rfl (by decide) hx hdg ?_
  simp only [hv]
  exact kk
theorem ms_hasPlayer (hC : CX p c cc s m args own Ts Dg cA mcnt ad A) (hW : WP Dg mcnt ad (mE cA ad σ) H) {x : Int} (hx : 0 ≤ x ∧ x < 6) (hS : va_S A H0 H locs) {v : Int} (hy : v = 0 ∨ v = 1) (hdg : decode cc pc = .ok (.bastore, 1)) (kk : ∀ (H1 : Heap) (locs1 : List Loc), WP Dg mcnt ad (mE cA ad (ups σ 6 x 0 v)) H1 → va_S A H0 H1 locs1 → W p l e R s m args below meth c H1 locs1 cells slots Q (F0 m (pc + 1) ls rest)) : W p l e R s m args below meth c H locs cells slots Q (F0 m pc ls (.int (zi v) :: .int (zi x) :: .ref (ad 9 0) :: rest)) := by
  refine r_zast (n := 6) (g := fun j => σ 6 j 0) hC hW hS (by decide) (by decide) (fun j => ups σ 6 x 0 v 6 j 0) rfl (by decide) hy hx (fun j h8 h9 => ?_) rfl hdg (fun H1 locs1 hW1 hS1 => kk H1 locs1 (mE_ups 6 x 0 v (by first | rfl | (simp only [mow]; rw [if_pos (by omega)]) | (simp only [mow]; rw [if_neg (by omega)])) veq.rf hW1) hS1)
  show ups σ 6 x 0 v 6 j 0 = if j = x then v else σ 6 j 0
  unfold ups
  by_cases hj : j = x
  · rw [if_pos hj]
    exact if_pos ⟨rfl, by omega, by omega⟩
  · rw [if_neg hj]
    exact if_neg (fun z => hj (by have z1 := z.2.1; have z2 := z.2.2; omega))
theorem ma_isFrozen (hC : CX p c cc s m args own Ts Dg cA mcnt ad A) (hW : WP Dg mcnt ad (mE cA ad σ) H) {x : Int} (hx : 0 ≤ x ∧ x < 6) {v : Int} (hv : σ 12 x 0 = v) (hdg : decode cc pc = .ok (.baload, 1)) (kk : W p l e R s m args below meth c H locs cells slots Q (F0 m (pc + 1) ls (.int (zi v) :: rest))) : W p l e R s m args below meth c H locs cells slots Q (F0 m pc ls (.int (zi x) :: .ref (ad 10 0) :: rest)) := by
  refine r_zald (n := 6) (g := fun j => σ 12 j 0) hC hW (by decide) (by decide) rfl (by decide) hx hdg ?_
  simp only [hv]
  exact kk
theorem ms_isFrozen (hC : CX p c cc s m args own Ts Dg cA mcnt ad A) (hW : WP Dg mcnt ad (mE cA ad σ) H) {x : Int} (hx : 0 ≤ x ∧ x < 6) (hS : va_S A H0 H locs) {v : Int} (hy : v = 0 ∨ v = 1) (hdg : decode cc pc = .ok (.bastore, 1)) (kk : ∀ (H1 : Heap) (locs1 : List Loc), WP Dg mcnt ad (mE cA ad (ups σ 12 x 0 v)) H1 → va_S A H0 H1 locs1 → W p l e R s m args below meth c H1 locs1 cells slots Q (F0 m (pc + 1) ls rest)) : W p l e R s m args below meth c H locs cells slots Q (F0 m pc ls (.int (zi v) :: .int (zi x) :: .ref (ad 10 0) :: rest)) := by
  refine r_zast (n := 6) (g := fun j => σ 12 j 0) hC hW hS (by decide) (by decide) (fun j => ups σ 12 x 0 v 12 j 0) rfl (by decide) hy hx (fun j h8 h9 => ?_) rfl hdg (fun H1 locs1 hW1 hS1 => kk H1 locs1 (mE_ups 12 x 0 v (by first | rfl | (simp only [mow]; rw [if_pos (by omega)]) | (simp only [mow]; rw [if_neg (by omega)])) veq.rf hW1) hS1)
  show ups σ 12 x 0 v 12 j 0 = if j = x then v else σ 12 j 0
  unfold ups
  by_cases hj : j = x
  · rw [if_pos hj]
    exact if_pos ⟨rfl, by omega, by omega⟩
  · rw [if_neg hj]
    exact if_neg (fun z => hj (by have z1 := z.2.1; have z2 := z.2.2; omega))
theorem ma_isOut (hC : CX p c cc s m args own Ts Dg cA mcnt ad A) (hW : WP Dg mcnt ad (mE cA ad σ) H) {x : Int} (hx : 0 ≤ x ∧ x < 6) {v : Int} (hv : σ 13 x 0 = v) (hdg : decode cc pc = .ok (.baload, 1)) (kk : W p l e R s m args below meth c H locs cells slots Q (F0 m (pc + 1) ls (.int (zi v) :: rest))) : W p l e R s m args below meth c H locs cells slots Q (F0 m pc ls (.int (zi x) :: .ref (ad 11 0) :: rest)) := by
  refine r_zald (n := 6) (g := fun j => σ 13 j 0) hC hW (by decide) (by decide) rfl (by decide) hx hdg ?_
  simp only [hv]
  exact kk
theorem ms_isOut (hC : CX p c cc s m args own Ts Dg cA mcnt ad A) (hW : WP Dg mcnt ad (mE cA ad σ) H) {x : Int} (hx : 0 ≤ x ∧ x < 6) (hS : va_S A H0 H locs) {v : Int} (hy : v = 0 ∨ v = 1) (hdg : decode cc pc = .ok (.bastore, 1)) (kk : ∀ (H1 : Heap) (locs1 : List Loc), WP Dg mcnt ad (mE cA ad (ups σ 13 x 0 v)) H1 → va_S A H0 H1 locs1 → W p l e R s m args below meth c H1 locs1 cells slots Q (F0 m (pc + 1) ls rest)) : W p l e R s m args below meth c H locs cells slots Q (F0 m pc ls (.int (zi v) :: .int (zi x) :: .ref (ad 11 0) :: rest)) := by
  refine r_zast (n := 6) (g := fun j => σ 13 j 0) hC hW hS (by decide) (by decide) (fun j => ups σ 13 x 0 v 13 j 0) rfl (by decide) hy hx (fun j h8 h9 => ?_) rfl hdg (fun H1 locs1 hW1 hS1 => kk H1 locs1 (mE_ups 13 x 0 v (by first | rfl | (simp only [mow]; rw [if_pos (by omega)]) | (simp only [mow]; rw [if_neg (by omega)])) veq.rf hW1) hS1)
  show ups σ 13 x 0 v 13 j 0 = if j = x then v else σ 13 j 0
  unfold ups
  by_cases hj : j = x
  · rw [if_pos hj]
    exact if_pos ⟨rfl, by omega, by omega⟩
  · rw [if_neg hj]
    exact if_neg (fun z => hj (by have z1 := z.2.1; have z2 := z.2.2; omega))
theorem ma_depth (hC : CX p c cc s m args own Ts Dg cA mcnt ad A) (hW : WP Dg mcnt ad (mE cA ad σ) H) {x : Int} (hx : 0 ≤ x ∧ x < 6) {v : Int} (hv : σ 24 x 0 = v) (hdg : decode cc pc = .ok (.iaload, 1)) (kk : W p l e R s m args below meth c H locs cells slots Q (F0 m (pc + 1) ls (.int (zi v) :: rest))) : W p l e R s m args below meth c H locs cells slots Q (F0 m pc ls (.int (zi x) :: .ref (ad 12 0) :: rest)) := by
  refine r_iald (n := 6) (g := fun j => σ 24 j 0) hC hW (by decide) (by decide) rfl (by decide) hx hdg ?_
  simp only [hv]
  exact kk
theorem ms_depth (hC : CX p c cc s m args own Ts Dg cA mcnt ad A) (hW : WP Dg mcnt ad (mE cA ad σ) H) {x : Int} (hx : 0 ≤ x ∧ x < 6) (hS : va_S A H0 H locs) {v : Int} (hdg : decode cc pc = .ok (.iastore, 1)) (kk : ∀ (H1 : Heap) (locs1 : List Loc), WP Dg mcnt ad (mE cA ad (ups σ 24 x 0 v)) H1 → va_S A H0 H1 locs1 → W p l e R s m args below meth c H1 locs1 cells slots Q (F0 m (pc + 1) ls rest)) : W p l e R s m args below meth c H locs cells slots Q (F0 m pc ls (.int (zi v) :: .int (zi x) :: .ref (ad 12 0) :: rest)) := by
  refine r_iast (n := 6) (g := fun j => σ 24 j 0) hC hW hS (by decide) (by decide) (fun j => ups σ 24 x 0 v 24 j 0) rfl (by decide) hx (fun j h8 h9 => ?_) rfl hdg (fun H1 locs1 hW1 hS1 => kk H1 locs1 (mE_ups 24 x 0 v (by first | rfl | (simp only [mow]; rw [if_pos (by omega)]) | (simp only [mow]; rw [if_neg (by omega)])) veq.rf hW1) hS1)
  show ups σ 24 x 0 v 24 j 0 = if j = x then v else σ 24 j 0
  unfold ups
  by_cases hj : j = x
  · rw [if_pos hj]
    exact if_pos ⟨rfl, by omega, by omega⟩
  · rw [if_neg hj]
    exact if_neg (fun z => hj (by have z1 := z.2.1; have z2 := z.2.2; omega))
theorem ma_at (hC : CX p c cc s m args own Ts Dg cA mcnt ad A) (hW : WP Dg mcnt ad (mE cA ad σ) H) {x : Int} (hx : 0 ≤ x ∧ x < 6) {v : Int} (hv : σ 8 x 0 = v) (hdg : decode cc pc = .ok (.iaload, 1)) (kk : W p l e R s m args below meth c H locs cells slots Q (F0 m (pc + 1) ls (.int (zi v) :: rest))) : W p l e R s m args below meth c H locs cells slots Q (F0 m pc ls (.int (zi x) :: .ref (ad 13 0) :: rest)) := by
  refine r_iald (n := 6) (g := fun j => σ 8 j 0) hC hW (by decide) (by decide) rfl (by decide) hx hdg ?_
  simp only [hv]
  exact kk
theorem ms_at (hC : CX p c cc s m args own Ts Dg cA mcnt ad A) (hW : WP Dg mcnt ad (mE cA ad σ) H) {x : Int} (hx : 0 ≤ x ∧ x < 6) (hS : va_S A H0 H locs) {v : Int} (hdg : decode cc pc = .ok (.iastore, 1)) (kk : ∀ (H1 : Heap) (locs1 : List Loc), WP Dg mcnt ad (mE cA ad (ups σ 8 x 0 v)) H1 → va_S A H0 H1 locs1 → W p l e R s m args below meth c H1 locs1 cells slots Q (F0 m (pc + 1) ls rest)) : W p l e R s m args below meth c H locs cells slots Q (F0 m pc ls (.int (zi v) :: .int (zi x) :: .ref (ad 13 0) :: rest)) := by
  refine r_iast (n := 6) (g := fun j => σ 8 j 0) hC hW hS (by decide) (by decide) (fun j => ups σ 8 x 0 v 8 j 0) rfl (by decide) hx (fun j h8 h9 => ?_) rfl hdg (fun H1 locs1 hW1 hS1 => kk H1 locs1 (mE_ups 8 x 0 v (by first | rfl | (simp only [mow]; rw [if_pos (by omega)]) | (simp only [mow]; rw [if_neg (by omega)])) veq.rf hW1) hS1)
  show ups σ 8 x 0 v 8 j 0 = if j = x then v else σ 8 j 0
  unfold ups
  by_cases hj : j = x
  · rw [if_pos hj]
    exact if_pos ⟨rfl, by omega, by omega⟩
  · rw [if_neg hj]
    exact if_neg (fun z => hj (by have z1 := z.2.1; have z2 := z.2.2; omega))
theorem ma_counts (hC : CX p c cc s m args own Ts Dg cA mcnt ad A) (hW : WP Dg mcnt ad (mE cA ad σ) H) {x : Int} (hx : 0 ≤ x ∧ x < 6) {v : Int} (hv : σ 9 x 0 = v) (hdg : decode cc pc = .ok (.iaload, 1)) (kk : W p l e R s m args below meth c H locs cells slots Q (F0 m (pc + 1) ls (.int (zi v) :: rest))) : W p l e R s m args below meth c H locs cells slots Q (F0 m pc ls (.int (zi x) :: .ref (ad 14 0) :: rest)) := by
  refine r_iald (n := 6) (g := fun j => σ 9 j 0) hC hW (by decide) (by decide) rfl (by decide) hx hdg ?_
  simp only [hv]
  exact kk
theorem ms_counts (hC : CX p c cc s m args own Ts Dg cA mcnt ad A) (hW : WP Dg mcnt ad (mE cA ad σ) H) {x : Int} (hx : 0 ≤ x ∧ x < 6) (hS : va_S A H0 H locs) {v : Int} (hdg : decode cc pc = .ok (.iastore, 1)) (kk : ∀ (H1 : Heap) (locs1 : List Loc), WP Dg mcnt ad (mE cA ad (ups σ 9 x 0 v)) H1 → va_S A H0 H1 locs1 → W p l e R s m args below meth c H1 locs1 cells slots Q (F0 m (pc + 1) ls rest)) : W p l e R s m args below meth c H locs cells slots Q (F0 m pc ls (.int (zi v) :: .int (zi x) :: .ref (ad 14 0) :: rest)) := by
  refine r_iast (n := 6) (g := fun j => σ 9 j 0) hC hW hS (by decide) (by decide) (fun j => ups σ 9 x 0 v 9 j 0) rfl (by decide) hx (fun j h8 h9 => ?_) rfl hdg (fun H1 locs1 hW1 hS1 => kk H1 locs1 (mE_ups 9 x 0 v (by first | rfl | (simp only [mow]; rw [if_pos (by omega)]) | (simp only [mow]; rw [if_neg (by omega)])) veq.rf hW1) hS1)
  show ups σ 9 x 0 v 9 j 0 = if j = x then v else σ 9 j 0
  unfold ups
  by_cases hj : j = x
  · rw [if_pos hj]
    exact if_pos ⟨rfl, by omega, by omega⟩
  · rw [if_neg hj]
    exact if_neg (fun z => hj (by have z1 := z.2.1; have z2 := z.2.2; omega))
theorem ma_ticks (hC : CX p c cc s m args own Ts Dg cA mcnt ad A) (hW : WP Dg mcnt ad (mE cA ad σ) H) {x : Int} (hx : 0 ≤ x ∧ x < 6) {v : Int} (hv : σ 10 x 0 = v) (hdg : decode cc pc = .ok (.iaload, 1)) (kk : W p l e R s m args below meth c H locs cells slots Q (F0 m (pc + 1) ls (.int (zi v) :: rest))) : W p l e R s m args below meth c H locs cells slots Q (F0 m pc ls (.int (zi x) :: .ref (ad 15 0) :: rest)) := by
  refine r_iald (n := 6) (g := fun j => σ 10 j 0) hC hW (by decide) (by decide) rfl (by decide) hx hdg ?_
  simp only [hv]
  exact kk
theorem ms_ticks (hC : CX p c cc s m args own Ts Dg cA mcnt ad A) (hW : WP Dg mcnt ad (mE cA ad σ) H) {x : Int} (hx : 0 ≤ x ∧ x < 6) (hS : va_S A H0 H locs) {v : Int} (hdg : decode cc pc = .ok (.iastore, 1)) (kk : ∀ (H1 : Heap) (locs1 : List Loc), WP Dg mcnt ad (mE cA ad (ups σ 10 x 0 v)) H1 → va_S A H0 H1 locs1 → W p l e R s m args below meth c H1 locs1 cells slots Q (F0 m (pc + 1) ls rest)) : W p l e R s m args below meth c H locs cells slots Q (F0 m pc ls (.int (zi v) :: .int (zi x) :: .ref (ad 15 0) :: rest)) := by
  refine r_iast (n := 6) (g := fun j => σ 10 j 0) hC hW hS (by decide) (by decide) (fun j => ups σ 10 x 0 v 10 j 0) rfl (by decide) hx (fun j h8 h9 => ?_) rfl hdg (fun H1 locs1 hW1 hS1 => kk H1 locs1 (mE_ups 10 x 0 v (by first | rfl | (simp only [mow]; rw [if_pos (by omega)]) | (simp only [mow]; rw [if_neg (by omega)])) veq.rf hW1) hS1)
  show ups σ 10 x 0 v 10 j 0 = if j = x then v else σ 10 j 0
  unfold ups
  by_cases hj : j = x
  · rw [if_pos hj]
    exact if_pos ⟨rfl, by omega, by omega⟩
  · rw [if_neg hj]
    exact if_neg (fun z => hj (by have z1 := z.2.1; have z2 := z.2.2; omega))
theorem ma_wanted (hC : CX p c cc s m args own Ts Dg cA mcnt ad A) (hW : WP Dg mcnt ad (mE cA ad σ) H) {x : Int} (hx : 0 ≤ x ∧ x < 6) {v : Int} (hv : σ 25 x 0 = v) (hdg : decode cc pc = .ok (.iaload, 1)) (kk : W p l e R s m args below meth c H locs cells slots Q (F0 m (pc + 1) ls (.int (zi v) :: rest))) : W p l e R s m args below meth c H locs cells slots Q (F0 m pc ls (.int (zi x) :: .ref (ad 16 0) :: rest)) := by
  refine r_iald (n := 6) (g := fun j => σ 25 j 0) hC hW (by decide) (by decide) rfl (by decide) hx hdg ?_
  simp only [hv]
  exact kk
theorem ms_wanted (hC : CX p c cc s m args own Ts Dg cA mcnt ad A) (hW : WP Dg mcnt ad (mE cA ad σ) H) {x : Int} (hx : 0 ≤ x ∧ x < 6) (hS : va_S A H0 H locs) {v : Int} (hdg : decode cc pc = .ok (.iastore, 1)) (kk : ∀ (H1 : Heap) (locs1 : List Loc), WP Dg mcnt ad (mE cA ad (ups σ 25 x 0 v)) H1 → va_S A H0 H1 locs1 → W p l e R s m args below meth c H1 locs1 cells slots Q (F0 m (pc + 1) ls rest)) : W p l e R s m args below meth c H locs cells slots Q (F0 m pc ls (.int (zi v) :: .int (zi x) :: .ref (ad 16 0) :: rest)) := by
  refine r_iast (n := 6) (g := fun j => σ 25 j 0) hC hW hS (by decide) (by decide) (fun j => ups σ 25 x 0 v 25 j 0) rfl (by decide) hx (fun j h8 h9 => ?_) rfl hdg (fun H1 locs1 hW1 hS1 => kk H1 locs1 (mE_ups 25 x 0 v (by first | rfl | (simp only [mow]; rw [if_pos (by omega)]) | (simp only [mow]; rw [if_neg (by omega)])) veq.rf hW1) hS1)
  show ups σ 25 x 0 v 25 j 0 = if j = x then v else σ 25 j 0
  unfold ups
  by_cases hj : j = x
  · rw [if_pos hj]
    exact if_pos ⟨rfl, by omega, by omega⟩
  · rw [if_neg hj]
    exact if_neg (fun z => hj (by have z1 := z.2.1; have z2 := z.2.2; omega))
theorem ma_frozenFor (hC : CX p c cc s m args own Ts Dg cA mcnt ad A) (hW : WP Dg mcnt ad (mE cA ad σ) H) {x : Int} (hx : 0 ≤ x ∧ x < 6) {v : Int} (hv : σ 23 x 0 = v) (hdg : decode cc pc = .ok (.iaload, 1)) (kk : W p l e R s m args below meth c H locs cells slots Q (F0 m (pc + 1) ls (.int (zi v) :: rest))) : W p l e R s m args below meth c H locs cells slots Q (F0 m pc ls (.int (zi x) :: .ref (ad 17 0) :: rest)) := by
  refine r_iald (n := 6) (g := fun j => σ 23 j 0) hC hW (by decide) (by decide) rfl (by decide) hx hdg ?_
  simp only [hv]
  exact kk
theorem ms_frozenFor (hC : CX p c cc s m args own Ts Dg cA mcnt ad A) (hW : WP Dg mcnt ad (mE cA ad σ) H) {x : Int} (hx : 0 ≤ x ∧ x < 6) (hS : va_S A H0 H locs) {v : Int} (hdg : decode cc pc = .ok (.iastore, 1)) (kk : ∀ (H1 : Heap) (locs1 : List Loc), WP Dg mcnt ad (mE cA ad (ups σ 23 x 0 v)) H1 → va_S A H0 H1 locs1 → W p l e R s m args below meth c H1 locs1 cells slots Q (F0 m (pc + 1) ls rest)) : W p l e R s m args below meth c H locs cells slots Q (F0 m pc ls (.int (zi v) :: .int (zi x) :: .ref (ad 17 0) :: rest)) := by
  refine r_iast (n := 6) (g := fun j => σ 23 j 0) hC hW hS (by decide) (by decide) (fun j => ups σ 23 x 0 v 23 j 0) rfl (by decide) hx (fun j h8 h9 => ?_) rfl hdg (fun H1 locs1 hW1 hS1 => kk H1 locs1 (mE_ups 23 x 0 v (by first | rfl | (simp only [mow]; rw [if_pos (by omega)]) | (simp only [mow]; rw [if_neg (by omega)])) veq.rf hW1) hS1)
  show ups σ 23 x 0 v 23 j 0 = if j = x then v else σ 23 j 0
  unfold ups
  by_cases hj : j = x
  · rw [if_pos hj]
    exact if_pos ⟨rfl, by omega, by omega⟩
  · rw [if_neg hj]
    exact if_neg (fun z => hj (by have z1 := z.2.1; have z2 := z.2.2; omega))
theorem ma_slide (hC : CX p c cc s m args own Ts Dg cA mcnt ad A) (hW : WP Dg mcnt ad (mE cA ad σ) H) {x : Int} (hx : 0 ≤ x ∧ x < 6) {v : Int} (hv : σ 15 x 0 = v) (hdg : decode cc pc = .ok (.iaload, 1)) (kk : W p l e R s m args below meth c H locs cells slots Q (F0 m (pc + 1) ls (.int (zi v) :: rest))) : W p l e R s m args below meth c H locs cells slots Q (F0 m pc ls (.int (zi x) :: .ref (ad 18 0) :: rest)) := by
  refine r_iald (n := 6) (g := fun j => σ 15 j 0) hC hW (by decide) (by decide) rfl (by decide) hx hdg ?_
  simp only [hv]
  exact kk
theorem ms_slide (hC : CX p c cc s m args own Ts Dg cA mcnt ad A) (hW : WP Dg mcnt ad (mE cA ad σ) H) {x : Int} (hx : 0 ≤ x ∧ x < 6) (hS : va_S A H0 H locs) {v : Int} (hdg : decode cc pc = .ok (.iastore, 1)) (kk : ∀ (H1 : Heap) (locs1 : List Loc), WP Dg mcnt ad (mE cA ad (ups σ 15 x 0 v)) H1 → va_S A H0 H1 locs1 → W p l e R s m args below meth c H1 locs1 cells slots Q (F0 m (pc + 1) ls rest)) : W p l e R s m args below meth c H locs cells slots Q (F0 m pc ls (.int (zi v) :: .int (zi x) :: .ref (ad 18 0) :: rest)) := by
  refine r_iast (n := 6) (g := fun j => σ 15 j 0) hC hW hS (by decide) (by decide) (fun j => ups σ 15 x 0 v 15 j 0) rfl (by decide) hx (fun j h8 h9 => ?_) rfl hdg (fun H1 locs1 hW1 hS1 => kk H1 locs1 (mE_ups 15 x 0 v (by first | rfl | (simp only [mow]; rw [if_pos (by omega)]) | (simp only [mow]; rw [if_neg (by omega)])) veq.rf hW1) hS1)
  show ups σ 15 x 0 v 15 j 0 = if j = x then v else σ 15 j 0
  unfold ups
  by_cases hj : j = x
  · rw [if_pos hj]
    exact if_pos ⟨rfl, by omega, by omega⟩
  · rw [if_neg hj]
    exact if_neg (fun z => hj (by have z1 := z.2.1; have z2 := z.2.2; omega))
theorem ma_playing (hC : CX p c cc s m args own Ts Dg cA mcnt ad A) (hW : WP Dg mcnt ad (mE cA ad σ) H) {x : Int} (a b : Int) (he : x = 6 * a + b) (ha : 0 ≤ a ∧ a < 6) (hb : 0 ≤ b ∧ b < 6) {v : Int} (hv : σ 16 a b = v) (hdg : decode cc pc = .ok (.iaload, 1)) (kk : W p l e R s m args below meth c H locs cells slots Q (F0 m (pc + 1) ls (.int (zi v) :: rest))) : W p l e R s m args below meth c H locs cells slots Q (F0 m pc ls (.int (zi x) :: .ref (ad 19 0) :: rest)) := by
  refine r_iald (n := 36) (g := fun j => σ 16 (j / 6) (j % 6)) hC hW (by decide) (by decide) rfl (by decide) (by omega) hdg ?_
  have e1 : x / 6 = a := by omega
  have e2 : x % 6 = b := by omega
  simp only [e1, e2, hv]
  exact kk
theorem ms_playing (hC : CX p c cc s m args own Ts Dg cA mcnt ad A) (hW : WP Dg mcnt ad (mE cA ad σ) H) {x : Int} (a b : Int) (he : x = 6 * a + b) (ha : 0 ≤ a ∧ a < 6) (hb : 0 ≤ b ∧ b < 6) (hS : va_S A H0 H locs) {v : Int} (hdg : decode cc pc = .ok (.iastore, 1)) (kk : ∀ (H1 : Heap) (locs1 : List Loc), WP Dg mcnt ad (mE cA ad (ups σ 16 a b v)) H1 → va_S A H0 H1 locs1 → W p l e R s m args below meth c H1 locs1 cells slots Q (F0 m (pc + 1) ls rest)) : W p l e R s m args below meth c H locs cells slots Q (F0 m pc ls (.int (zi v) :: .int (zi x) :: .ref (ad 19 0) :: rest)) := by
  refine r_iast (n := 36) (g := fun j => σ 16 (j / 6) (j % 6)) hC hW hS (by decide) (by decide) (fun j => ups σ 16 a b v 16 (j / 6) (j % 6)) rfl (by decide) (by omega) (fun j h8 h9 => ?_) rfl hdg (fun H1 locs1 hW1 hS1 => kk H1 locs1 (mE_ups 16 a b v (by first | rfl | (simp only [mow]; rw [if_pos (by omega)]) | (simp only [mow]; rw [if_neg (by omega)])) veq.rf hW1) hS1)
  show ups σ 16 a b v 16 (j / 6) (j % 6) = if j = x then v else σ 16 (j / 6) (j % 6)
  unfold ups
  by_cases hj : j = x
  · rw [if_pos hj]
    exact if_pos ⟨rfl, by omega, by omega⟩
  · rw [if_neg hj]
    exact if_neg (fun z => hj (by have z1 := z.2.1; have z2 := z.2.2; omega))
theorem ma_playingMany (hC : CX p c cc s m args own Ts Dg cA mcnt ad A) (hW : WP Dg mcnt ad (mE cA ad σ) H) {x : Int} (hx : 0 ≤ x ∧ x < 6) {v : Int} (hv : σ 17 x 0 = v) (hdg : decode cc pc = .ok (.iaload, 1)) (kk : W p l e R s m args below meth c H locs cells slots Q (F0 m (pc + 1) ls (.int (zi v) :: rest))) : W p l e R s m args below meth c H locs cells slots Q (F0 m pc ls (.int (zi x) :: .ref (ad 20 0) :: rest)) := by
  refine r_iald (n := 6) (g := fun j => σ 17 j 0) hC hW (by decide) (by decide) rfl (by decide) hx hdg ?_
  simp only [hv]
  exact kk
theorem ms_playingMany (hC : CX p c cc s m args own Ts Dg cA mcnt ad A) (hW : WP Dg mcnt ad (mE cA ad σ) H) {x : Int} (hx : 0 ≤ x ∧ x < 6) (hS : va_S A H0 H locs) {v : Int} (hdg : decode cc pc = .ok (.iastore, 1)) (kk : ∀ (H1 : Heap) (locs1 : List Loc), WP Dg mcnt ad (mE cA ad (ups σ 17 x 0 v)) H1 → va_S A H0 H1 locs1 → W p l e R s m args below meth c H1 locs1 cells slots Q (F0 m (pc + 1) ls rest)) : W p l e R s m args below meth c H locs cells slots Q (F0 m pc ls (.int (zi v) :: .int (zi x) :: .ref (ad 20 0) :: rest)) := by
  refine r_iast (n := 6) (g := fun j => σ 17 j 0) hC hW hS (by decide) (by decide) (fun j => ups σ 17 x 0 v 17 j 0) rfl (by decide) hx (fun j h8 h9 => ?_) rfl hdg (fun H1 locs1 hW1 hS1 => kk H1 locs1 (mE_ups 17 x 0 v (by first | rfl | (simp only [mow]; rw [if_pos (by omega)]) | (simp only [mow]; rw [if_neg (by omega)])) veq.rf hW1) hS1)
  show ups σ 17 x 0 v 17 j 0 = if j = x then v else σ 17 j 0
  unfold ups
  by_cases hj : j = x
  · rw [if_pos hj]
    exact if_pos ⟨rfl, by omega, by omega⟩
  · rw [if_neg hj]
    exact if_neg (fun z => hj (by have z1 := z.2.1; have z2 := z.2.2; omega))
theorem ma_holder (hC : CX p c cc s m args own Ts Dg cA mcnt ad A) (hW : WP Dg mcnt ad (mE cA ad σ) H) {x : Int} (hx : 0 ≤ x ∧ x < 6) {v : Int} (hv : σ 18 x 0 = v) (hdg : decode cc pc = .ok (.iaload, 1)) (kk : W p l e R s m args below meth c H locs cells slots Q (F0 m (pc + 1) ls (.int (zi v) :: rest))) : W p l e R s m args below meth c H locs cells slots Q (F0 m pc ls (.int (zi x) :: .ref (ad 21 0) :: rest)) := by
  refine r_iald (n := 6) (g := fun j => σ 18 j 0) hC hW (by decide) (by decide) rfl (by decide) hx hdg ?_
  simp only [hv]
  exact kk
theorem ms_holder (hC : CX p c cc s m args own Ts Dg cA mcnt ad A) (hW : WP Dg mcnt ad (mE cA ad σ) H) {x : Int} (hx : 0 ≤ x ∧ x < 6) (hS : va_S A H0 H locs) {v : Int} (hdg : decode cc pc = .ok (.iastore, 1)) (kk : ∀ (H1 : Heap) (locs1 : List Loc), WP Dg mcnt ad (mE cA ad (ups σ 18 x 0 v)) H1 → va_S A H0 H1 locs1 → W p l e R s m args below meth c H1 locs1 cells slots Q (F0 m (pc + 1) ls rest)) : W p l e R s m args below meth c H locs cells slots Q (F0 m pc ls (.int (zi v) :: .int (zi x) :: .ref (ad 21 0) :: rest)) := by
  refine r_iast (n := 6) (g := fun j => σ 18 j 0) hC hW hS (by decide) (by decide) (fun j => ups σ 18 x 0 v 18 j 0) rfl (by decide) hx (fun j h8 h9 => ?_) rfl hdg (fun H1 locs1 hW1 hS1 => kk H1 locs1 (mE_ups 18 x 0 v (by first | rfl | (simp only [mow]; rw [if_pos (by omega)]) | (simp only [mow]; rw [if_neg (by omega)])) veq.rf hW1) hS1)
  show ups σ 18 x 0 v 18 j 0 = if j = x then v else σ 18 j 0
  unfold ups
  by_cases hj : j = x
  · rw [if_pos hj]
    exact if_pos ⟨rfl, by omega, by omega⟩
  · rw [if_neg hj]
    exact if_neg (fun z => hj (by have z1 := z.2.1; have z2 := z.2.2; omega))
theorem ma_queue (hC : CX p c cc s m args own Ts Dg cA mcnt ad A) (hW : WP Dg mcnt ad (mE cA ad σ) H) {x : Int} (a b : Int) (he : x = 6 * a + b) (ha : 0 ≤ a ∧ a < 6) (hb : 0 ≤ b ∧ b < 6) {v : Int} (hv : σ 16 (6 + a) b = v) (hdg : decode cc pc = .ok (.iaload, 1)) (kk : W p l e R s m args below meth c H locs cells slots Q (F0 m (pc + 1) ls (.int (zi v) :: rest))) : W p l e R s m args below meth c H locs cells slots Q (F0 m pc ls (.int (zi x) :: .ref (ad 22 0) :: rest)) := by
  refine r_iald (n := 36) (g := fun j => σ 16 (6 + j / 6) (j % 6)) hC hW (by decide) (by decide) rfl (by decide) (by omega) hdg ?_
  have e1 : x / 6 = a := by omega
  have e2 : x % 6 = b := by omega
  simp only [e1, e2, hv]
  exact kk
theorem ms_queue (hC : CX p c cc s m args own Ts Dg cA mcnt ad A) (hW : WP Dg mcnt ad (mE cA ad σ) H) {x : Int} (a b : Int) (he : x = 6 * a + b) (ha : 0 ≤ a ∧ a < 6) (hb : 0 ≤ b ∧ b < 6) (hS : va_S A H0 H locs) {v : Int} (hdg : decode cc pc = .ok (.iastore, 1)) (kk : ∀ (H1 : Heap) (locs1 : List Loc), WP Dg mcnt ad (mE cA ad (ups σ 16 (6 + a) b v)) H1 → va_S A H0 H1 locs1 → W p l e R s m args below meth c H1 locs1 cells slots Q (F0 m (pc + 1) ls rest)) : W p l e R s m args below meth c H locs cells slots Q (F0 m pc ls (.int (zi v) :: .int (zi x) :: .ref (ad 22 0) :: rest)) := by
  refine r_iast (n := 36) (g := fun j => σ 16 (6 + j / 6) (j % 6)) hC hW hS (by decide) (by decide) (fun j => ups σ 16 (6 + a) b v 16 (6 + j / 6) (j % 6)) rfl (by decide) (by omega) (fun j h8 h9 => ?_) rfl hdg (fun H1 locs1 hW1 hS1 => kk H1 locs1 (mE_ups 16 (6 + a) b v (by first | rfl | (simp only [mow]; rw [if_pos (by omega)]) | (simp only [mow]; rw [if_neg (by omega)])) veq.rf hW1) hS1)
  show ups σ 16 (6 + a) b v 16 (6 + j / 6) (j % 6) = if j = x then v else σ 16 (6 + j / 6) (j % 6)
  unfold ups
  by_cases hj : j = x
  · rw [if_pos hj]
    exact if_pos ⟨rfl, by omega, by omega⟩
  · rw [if_neg hj]
    exact if_neg (fun z => hj (by have z1 := z.2.1; have z2 := z.2.2; omega))
theorem ma_queueMany (hC : CX p c cc s m args own Ts Dg cA mcnt ad A) (hW : WP Dg mcnt ad (mE cA ad σ) H) {x : Int} (hx : 0 ≤ x ∧ x < 6) {v : Int} (hv : σ 17 (6 + x) 0 = v) (hdg : decode cc pc = .ok (.iaload, 1)) (kk : W p l e R s m args below meth c H locs cells slots Q (F0 m (pc + 1) ls (.int (zi v) :: rest))) : W p l e R s m args below meth c H locs cells slots Q (F0 m pc ls (.int (zi x) :: .ref (ad 23 0) :: rest)) := by
  refine r_iald (n := 6) (g := fun j => σ 17 (6 + j) 0) hC hW (by decide) (by decide) rfl (by decide) hx hdg ?_
  simp only [hv]
  exact kk
theorem ms_queueMany (hC : CX p c cc s m args own Ts Dg cA mcnt ad A) (hW : WP Dg mcnt ad (mE cA ad σ) H) {x : Int} (hx : 0 ≤ x ∧ x < 6) (hS : va_S A H0 H locs) {v : Int} (hdg : decode cc pc = .ok (.iastore, 1)) (kk : ∀ (H1 : Heap) (locs1 : List Loc), WP Dg mcnt ad (mE cA ad (ups σ 17 (6 + x) 0 v)) H1 → va_S A H0 H1 locs1 → W p l e R s m args below meth c H1 locs1 cells slots Q (F0 m (pc + 1) ls rest)) : W p l e R s m args below meth c H locs cells slots Q (F0 m pc ls (.int (zi v) :: .int (zi x) :: .ref (ad 23 0) :: rest)) := by
  refine r_iast (n := 6) (g := fun j => σ 17 (6 + j) 0) hC hW hS (by decide) (by decide) (fun j => ups σ 17 (6 + x) 0 v 17 (6 + j) 0) rfl (by decide) hx (fun j h8 h9 => ?_) rfl hdg (fun H1 locs1 hW1 hS1 => kk H1 locs1 (mE_ups 17 (6 + x) 0 v (by first | rfl | (simp only [mow]; rw [if_pos (by omega)]) | (simp only [mow]; rw [if_neg (by omega)])) veq.rf hW1) hS1)
  show ups σ 17 (6 + x) 0 v 17 (6 + j) 0 = if j = x then v else σ 17 (6 + j) 0
  unfold ups
  by_cases hj : j = x
  · rw [if_pos hj]
    exact if_pos ⟨rfl, by omega, by omega⟩
  · rw [if_neg hj]
    exact if_neg (fun z => hj (by have z1 := z.2.1; have z2 := z.2.2; omega))
theorem ma_saw (hC : CX p c cc s m args own Ts Dg cA mcnt ad A) (hW : WP Dg mcnt ad (mE cA ad σ) H) {x : Int} (a b : Int) (he : x = 100 * a + b) (ha : 0 ≤ a ∧ a < 10) (hb : 0 ≤ b ∧ b < 100) {v : Int} (hv : σ 19 a b = v) (hdg : decode cc pc = .ok (.iaload, 1)) (kk : W p l e R s m args below meth c H locs cells slots Q (F0 m (pc + 1) ls (.int (zi v) :: rest))) : W p l e R s m args below meth c H locs cells slots Q (F0 m pc ls (.int (zi x) :: .ref (ad 24 0) :: rest)) := by
  refine r_iald (n := 1000) (g := fun j => σ 19 (j / 100) (j % 100)) hC hW (by decide) (by decide) rfl (by decide) (by omega) hdg ?_
  have e1 : x / 100 = a := by omega
  have e2 : x % 100 = b := by omega
  simp only [e1, e2, hv]
  exact kk
theorem ms_saw (hC : CX p c cc s m args own Ts Dg cA mcnt ad A) (hW : WP Dg mcnt ad (mE cA ad σ) H) {x : Int} (a b : Int) (he : x = 100 * a + b) (ha : 0 ≤ a ∧ a < 10) (hb : 0 ≤ b ∧ b < 100) (hS : va_S A H0 H locs) {v : Int} (hdg : decode cc pc = .ok (.iastore, 1)) (kk : ∀ (H1 : Heap) (locs1 : List Loc), WP Dg mcnt ad (mE cA ad (ups σ 19 a b v)) H1 → va_S A H0 H1 locs1 → W p l e R s m args below meth c H1 locs1 cells slots Q (F0 m (pc + 1) ls rest)) : W p l e R s m args below meth c H locs cells slots Q (F0 m pc ls (.int (zi v) :: .int (zi x) :: .ref (ad 24 0) :: rest)) := by
  refine r_iast (n := 1000) (g := fun j => σ 19 (j / 100) (j % 100)) hC hW hS (by decide) (by decide) (fun j => ups σ 19 a b v 19 (j / 100) (j % 100)) rfl (by decide) (by omega) (fun j h8 h9 => ?_) rfl hdg (fun H1 locs1 hW1 hS1 => kk H1 locs1 (mE_ups 19 a b v (by first | rfl | (simp only [mow]; rw [if_pos (by omega)]) | (simp only [mow]; rw [if_neg (by omega)])) veq.rf hW1) hS1)
  show ups σ 19 a b v 19 (j / 100) (j % 100) = if j = x then v else σ 19 (j / 100) (j % 100)
  unfold ups
  by_cases hj : j = x
  · rw [if_pos hj]
    exact if_pos ⟨rfl, by omega, by omega⟩
  · rw [if_neg hj]
    exact if_neg (fun z => hj (by have z1 := z.2.1; have z2 := z.2.2; omega))
theorem ma_place (hC : CX p c cc s m args own Ts Dg cA mcnt ad A) (hW : WP Dg mcnt ad (mE cA ad σ) H) {x : Int} (hx : 0 ≤ x ∧ x < 10) {v : Int} (hv : σ 22 x 0 = v) (hdg : decode cc pc = .ok (.iaload, 1)) (kk : W p l e R s m args below meth c H locs cells slots Q (F0 m (pc + 1) ls (.int (zi v) :: rest))) : W p l e R s m args below meth c H locs cells slots Q (F0 m pc ls (.int (zi x) :: .ref (ad 25 0) :: rest)) := by
  refine r_iald (n := 10) (g := fun j => σ 22 j 0) hC hW (by decide) (by decide) rfl (by decide) hx hdg ?_
  simp only [hv]
  exact kk
theorem ms_place (hC : CX p c cc s m args own Ts Dg cA mcnt ad A) (hW : WP Dg mcnt ad (mE cA ad σ) H) {x : Int} (hx : 0 ≤ x ∧ x < 10) (hS : va_S A H0 H locs) {v : Int} (hdg : decode cc pc = .ok (.iastore, 1)) (kk : ∀ (H1 : Heap) (locs1 : List Loc), WP Dg mcnt ad (mE cA ad (ups σ 22 x 0 v)) H1 → va_S A H0 H1 locs1 → W p l e R s m args below meth c H1 locs1 cells slots Q (F0 m (pc + 1) ls rest)) : W p l e R s m args below meth c H locs cells slots Q (F0 m pc ls (.int (zi v) :: .int (zi x) :: .ref (ad 25 0) :: rest)) := by
  refine r_iast (n := 10) (g := fun j => σ 22 j 0) hC hW hS (by decide) (by decide) (fun j => ups σ 22 x 0 v 22 j 0) rfl (by decide) hx (fun j h8 h9 => ?_) rfl hdg (fun H1 locs1 hW1 hS1 => kk H1 locs1 (mE_ups 22 x 0 v (by first | rfl | (simp only [mow]; rw [if_pos (by omega)]) | (simp only [mow]; rw [if_neg (by omega)])) veq.rf hW1) hS1)
  show ups σ 22 x 0 v 22 j 0 = if j = x then v else σ 22 j 0
  unfold ups
  by_cases hj : j = x
  · rw [if_pos hj]
    exact if_pos ⟨rfl, by omega, by omega⟩
  · rw [if_neg hj]
    exact if_neg (fun z => hj (by have z1 := z.2.1; have z2 := z.2.2; omega))
theorem ma_asked (hC : CX p c cc s m args own Ts Dg cA mcnt ad A) (hW : WP Dg mcnt ad (mE cA ad σ) H) {x : Int} (a b : Int) (he : x = 100 * a + b) (ha : 0 ≤ a ∧ a < 10) (hb : 0 ≤ b ∧ b < 100) {v : Int} (hv : σ 21 a b = v) (hdg : decode cc pc = .ok (.baload, 1)) (kk : W p l e R s m args below meth c H locs cells slots Q (F0 m (pc + 1) ls (.int (zi v) :: rest))) : W p l e R s m args below meth c H locs cells slots Q (F0 m pc ls (.int (zi x) :: .ref (ad 26 0) :: rest)) := by
  refine r_zald (n := 1000) (g := fun j => σ 21 (j / 100) (j % 100)) hC hW (by decide) (by decide) rfl (by decide) (by omega) hdg ?_
  have e1 : x / 100 = a := by omega
  have e2 : x % 100 = b := by omega
  simp only [e1, e2, hv]
  exact kk
theorem ms_asked (hC : CX p c cc s m args own Ts Dg cA mcnt ad A) (hW : WP Dg mcnt ad (mE cA ad σ) H) {x : Int} (a b : Int) (he : x = 100 * a + b) (ha : 0 ≤ a ∧ a < 10) (hb : 0 ≤ b ∧ b < 100) (hS : va_S A H0 H locs) {v : Int} (hy : v = 0 ∨ v = 1) (hdg : decode cc pc = .ok (.bastore, 1)) (kk : ∀ (H1 : Heap) (locs1 : List Loc), WP Dg mcnt ad (mE cA ad (ups σ 21 a b v)) H1 → va_S A H0 H1 locs1 → W p l e R s m args below meth c H1 locs1 cells slots Q (F0 m (pc + 1) ls rest)) : W p l e R s m args below meth c H locs cells slots Q (F0 m pc ls (.int (zi v) :: .int (zi x) :: .ref (ad 26 0) :: rest)) := by
  refine r_zast (n := 1000) (g := fun j => σ 21 (j / 100) (j % 100)) hC hW hS (by decide) (by decide) (fun j => ups σ 21 a b v 21 (j / 100) (j % 100)) rfl (by decide) hy (by omega) (fun j h8 h9 => ?_) rfl hdg (fun H1 locs1 hW1 hS1 => kk H1 locs1 (mE_ups 21 a b v (by first | rfl | (simp only [mow]; rw [if_pos (by omega)]) | (simp only [mow]; rw [if_neg (by omega)])) veq.rf hW1) hS1)
  show ups σ 21 a b v 21 (j / 100) (j % 100) = if j = x then v else σ 21 (j / 100) (j % 100)
  unfold ups
  by_cases hj : j = x
  · rw [if_pos hj]
    exact if_pos ⟨rfl, by omega, by omega⟩
  · rw [if_neg hj]
    exact if_neg (fun z => hj (by have z1 := z.2.1; have z2 := z.2.2; omega))
end FIELDROWS
end
section
section BASE2
/-- the strings that the first object's throws load -/
abbrev strL : List (Nat × String) := [(50, "there are 8 lists"), (64, "no such place"), (80, "the number is out of its range"), (83, "the list has 20 lines"), (102, "there are 6 kiosks"), (111, "the kiosk has a player"), (167, "no such player"), (190, "the number of ticks is out of range"), (201, "no slide was shown"), (206, "the device is free"), (211, "there are 10 visitors"), (245, "there are no visitors"), (258, "no such list"), (260, "no such kiosk"), (262, "the kiosk has no player"), (264, "no such visitor"), (266, "no such device"), (268, "no such slide"), (270, "no such kind")]
/-- what the calls need of the machine beside the worlds: the three outcomes, two statics of the throws, the texts -/
def ENV (oc : Nat → Nat) (A : Nat → Prop) (U : State) (H : Heap) : Prop :=
  va_Z "KioskReel$Outcome" "GOES_ON" "LKioskReel$Outcome;" (.ref (oc 0)) A U H ∧ va_Z "KioskReel$Outcome" "SHOWN" "LKioskReel$Outcome;" (.ref (oc 1)) A U H ∧ va_Z "KioskReel$Outcome" "ENDS_TURN" "LKioskReel$Outcome;" (.ref (oc 2)) A U H ∧ (oc 0 ≠ oc 1 ∧ oc 0 ≠ oc 2 ∧ oc 1 ≠ oc 2) ∧
  vx_Zq Bundle.tN "UNASSIGNED_STACK" Bundle.steD A U H ∧ vx_Zq Bundle.tN "SUPPRESSED_SENTINEL" Bundle.listD A U H ∧ ∀ q ∈ strL, ∃ a : Nat, vk_R "KioskReel" q.1 q.2 a U
theorem ENV.same {oc : Nat → Nat} {A : Nat → Prop} {u U : State} {H : Heap} (hv : U.vm = u.vm) (h : ENV oc A u H) : ENV oc A U H := by
  obtain ⟨h1, h2, h3, h4, h5, h6, h7⟩ := h
  have hal : u.vm.Alike U.vm := by rw [hv]; exact Vm.Alike.refl _
  exact ⟨h1.moved hal, h2.moved hal, h3.moved hal, h4, h5.moved hal, h6.moved hal, fun q hq => by obtain ⟨a, ha⟩ := h7 q hq; exact ⟨a, ha.same hv⟩⟩
theorem ENV.call {oc : Nat → Nat} {A A1 : Nat → Prop} {s U : State} {H : Heap} {locs : List Loc} (h : ENV oc A s s.heap) (hS : va_S A s.heap H locs) (hA : ∀ q, A1 q → A q) (hW : s.WarmedH U.vm) : ENV oc A1 U H := by
  obtain ⟨h1, h2, h3, h4, h5, h6, h7⟩ := h
  have hk : ∀ a : Nat, a < s.heap.size → ¬ A a → H[a]? = s.heap[a]? := hS.2.1
  exact ⟨((h1.kept hk).narrow hA).moved hW.alike, ((h2.kept hk).narrow hA).moved hW.alike, ((h3.kept hk).narrow hA).moved hW.alike, h4, ((h5.kept hk).narrow hA).moved hW.alike, ((h6.kept hk).narrow hA).moved hW.alike, fun q hq => by obtain ⟨a, ha⟩ := h7 q hq; exact ⟨a, ha.warm hW⟩⟩
/-- a method's start: its object's world, the rest of the machine -/
def gPre (Dg : va_G) (cA : Nat → ClassId) (cnt : Nat → Int) (ad : Nat → Int → Nat) (oc : Nat → Nat) (E : Nat → Int → va_E) (As : List Value) (sz : Nat) : Array Value → State → Prop :=
  va_Pc As (fun U => U.heap.size = sz ∧ WP Dg cnt ad E U.heap ∧ va_K Dg vwCl (tyL cA) U ∧ ENV oc (WA cnt ad sz) U U.heap)
def gB (Dg : va_G) (cnt : Nat → Int) (ad : Nat → Int → Nat) (E : Nat → Int → va_E) : Unit → State → Prop := fun _ t => WP Dg cnt ad E t.heap
theorem gPre_blind {Dg : va_G} {cA : Nat → ClassId} {cnt : Nat → Int} {ad : Nat → Int → Nat} {oc : Nat → Nat} {E : Nat → Int → va_E} {As : List Value} {sz : Nat} : FrameBlind (gPre Dg cA cnt ad oc E As sz) := by
  intro a U g mk q
  obtain ⟨q0, q1, q2, q3, q4⟩ := q
  exact ⟨q0, q1, q2, va_K.moved (u := U) (U := U.calling g mk a) (Vm.Alike.refl U.vm) q3, ENV.same (u := U) (U := U.calling g mk a) rfl q4⟩
/-- contracts: an int, nothing, a long, an outcome -/
abbrev GI (l : Launch) (y : MethodName) (ws : List Cond) (rm : Room) (Dg : va_G) (cA : Nat → ClassId) (cnt : Nat → Int) (ad : Nat → Int → Nat) (oc : Nat → Nat) (E : Nat → Int → va_E) (As : List Value) (v : Int) (E' : Nat → Int → va_E) : Prop :=
  ∀ sz : Nat, Met l y ws rm (gPre Dg cA cnt ad oc E As sz) (va_Qi (fun (r : Int32) (_ : Unit) => r = zi v) (gB Dg cnt ad E') (WA cnt ad sz)) 0 0 (WA cnt ad sz)
abbrev GV (l : Launch) (y : MethodName) (ws : List Cond) (rm : Room) (Dg : va_G) (cA : Nat → ClassId) (cnt : Nat → Int) (ad : Nat → Int → Nat) (oc : Nat → Nat) (E : Nat → Int → va_E) (As : List Value) (E' : Nat → Int → va_E) : Prop :=
  ∀ sz : Nat, Met l y ws rm (gPre Dg cA cnt ad oc E As sz) (va_Qv (fun _ : Unit => True) (gB Dg cnt ad E') (WA cnt ad sz)) 0 0 (WA cnt ad sz)
abbrev GL (l : Launch) (y : MethodName) (ws : List Cond) (rm : Room) (Dg : va_G) (cA : Nat → ClassId) (cnt : Nat → Int) (ad : Nat → Int → Nat) (oc : Nat → Nat) (E : Nat → Int → va_E) (As : List Value) (v : Int) (E' : Nat → Int → va_E) : Prop :=
  ∀ sz : Nat, Met l y ws rm (gPre Dg cA cnt ad oc E As sz) (va_Ql (fun (r : Int64) (_ : Unit) => r = zl v) (gB Dg cnt ad E') (WA cnt ad sz)) 0 0 (WA cnt ad sz)
abbrev GR (l : Launch) (y : MethodName) (ws : List Cond) (rm : Room) (Dg : va_G) (cA : Nat → ClassId) (cnt : Nat → Int) (ad : Nat → Int → Nat) (oc : Nat → Nat) (E : Nat → Int → va_E) (As : List Value) (v : Nat) (E' : Nat → Int → va_E) : Prop :=
  ∀ sz : Nat, Met l y ws rm (gPre Dg cA cnt ad oc E As sz) (va_Qr (fun _ : Unit => True) (fun (_ : Unit) (a : Nat) (t : State) => a = oc v ∧ WP Dg cnt ad E' t.heap) (WA cnt ad sz)) 0 0 (WA cnt ad sz)
/-- a contract that throws the class of that name, its world as it was -/
abbrev GX (l : Launch) (y : MethodName) (ws : List Cond) (rm : Room) (Dg : va_G) (cA : Nat → ClassId) (cnt : Nat → Int) (ad : Nat → Int → Nat) (oc : Nat → Nat) (E : Nat → Int → va_E) (As : List Value) (X : String) : Prop :=
  ∀ sz : Nat, vx_Met l y ws rm (gPre Dg cA cnt ad oc E As sz) (fun _ _ _ _ => False) (vx_X (fun _ : Unit => True) (fun (F : String) (_ : Unit) (t : State) => F = X ∧ WP Dg cnt ad E t.heap) (WA cnt ad sz)) 1 6 (WA cnt ad sz)
/-- the state of a walk -/
def KX (p : Program) (c : Code) (cc : ByteArray) (s : State) (m : MethodId) (meth : Method) (args : Array Value) (own : String) (Ts : List Cond) (Dg : va_G) (cA : Nat → ClassId) (cnt : Nat → Int) (ad : Nat → Int → Nat) (oc : Nat → Nat) (A : Nat → Prop) (nL : Nat) (ret : Option FieldType) : Prop :=
  CX p c cc s m args own Ts Dg cA cnt ad A ∧ c.maxLocals = nL ∧ meth.sig.returnType = ret ∧ meth.locks = false ∧ ENV oc A s s.heap ∧ ∀ q, s.heap.size ≤ q → A q
section Starts
variable {l : Launch} {y : MethodName} {ws ws' : List Cond} {rm : Room} {Dg : va_G} {cA : Nat → ClassId} {cnt : Nat → Int} {ad : Nat → Int → Nat} {oc : Nat → Nat} {E E' : Nat → Int → va_E} {As : List Value} {cc : ByteArray} {maxL : Nat} {ret : Option FieldType}
theorem g_ent {Qc : Array Value → State → Outcome → State → Prop} {sz : Nat} (hy : plainName y.cls = true) (hw : ws = Cond.code y cc maxL ret :: ws') (hI : WI cnt ad) (hlen : (lg_sl As).length ≤ maxL)
    (body : ∀ (p : Program) (e : Env) (s : State) (m : MethodId) (below : List Frame) (meth : Method) (c : Code), KX p c cc s m meth As.toArray y.cls ws Dg cA cnt ad oc (WA cnt ad s.heap.size) maxL ret → WP Dg cnt ad E s.heap → va_S (WA cnt ad s.heap.size) s.heap s.heap [] → s.heap.size = sz → ∀ ls : Array Slot, lv_has ls maxL (lv_args 0 As) → W p l e (headSpec ws rm).room s m As.toArray below meth c s.heap [] 0 0 (MQ below Qc As.toArray s 0 0 (WA cnt ad s.heap.size)) (F0 m 0 ls [])) :
    Met l y ws rm (gPre Dg cA cnt ad oc E As sz) Qc 0 0 (WA cnt ad sz) := by
  refine Met.ofW (cc := cc) (maxL := maxL) (ret := ret) hy hw ?_
  intro p e s m args below meth c s₁ B hml hv
  obtain ⟨rfl, hsz, hW, hK, hE⟩ := hv
  have hts := atoms_spec (ws := ws) B.pre
  have hl := lv_entry As (n := maxL) hlen
  subst hsz
  rw [lg_entry_eq]
  exact body p e s m below meth c ⟨⟨B.exec, B.bytes, findClass_of_methodNamed B.named, hts, hK, hI, fun t i h0 h1 => Or.inl ⟨t, i, h0, h1, rfl⟩⟩, hml, B.returns, B.notSynchronized, hE, fun q h => Or.inr h⟩ hW va_S.rf rfl _ hl
theorem gx_ent {XC : String → State → State → Prop} {Qc : Array Value → State → Outcome → State → Prop} {sz : Nat} (hy : plainName y.cls = true) (hw : ws = Cond.code y cc maxL ret :: ws') (hI : WI cnt ad) (hlen : (lg_sl As).length ≤ maxL)
    (body : ∀ (p : Program) (e : Env) (s : State) (m : MethodId) (below : List Frame) (meth : Method) (c : Code), KX p c cc s m meth As.toArray y.cls ws Dg cA cnt ad oc (WA cnt ad s.heap.size) maxL ret → (∀ x ∈ c.exceptionTable.toList, False) → WP Dg cnt ad E s.heap → va_S (WA cnt ad s.heap.size) s.heap s.heap [] → s.heap.size = sz → ∀ ls : Array Slot, lv_has ls maxL (lv_args 0 As) → W p l e (headSpec ws rm).room s m As.toArray below meth c s.heap [] 0 0 (vx_MQ below Qc XC As.toArray s 1 6 (WA cnt ad s.heap.size)) (F0 m 0 ls [])) :
    vx_Met l y ws rm (gPre Dg cA cnt ad oc E As sz) Qc XC 1 6 (WA cnt ad sz) := by
  refine vx_ofW (cc := cc) (maxL := maxL) (ret := ret) hy hw ?_
  intro p e s m args below meth c s₁ B hml hno hv
  obtain ⟨rfl, hsz, hW, hK, hE⟩ := hv
  have hts := atoms_spec (ws := ws) B.pre
  have hl := lv_entry As (n := maxL) hlen
  subst hsz
  rw [lg_entry_eq]
  exact body p e s m below meth c ⟨⟨B.exec, B.bytes, findClass_of_methodNamed B.named, hts, hK, hI, fun t i h0 h1 => Or.inl ⟨t, i, h0, h1, rfl⟩⟩, hml, B.returns, B.notSynchronized, hE, fun q h => Or.inr h⟩ hno hW va_S.rf rfl _ hl
end Starts
section Ends
variable {p : Program} {l : Launch} {e : Env} {R : Room} {s : State} {m : MethodId} {args : Array Value} {below : List Frame} {meth : Method} {c : Code} {H : Heap} {locs : List Loc} {cc : ByteArray} {pc : Nat} {ls : Array Slot} {own : String} {Ts : List Cond} {Dg : va_G} {cA : Nat → ClassId} {cnt : Nat → Int} {ad : Nat → Int → Nat} {oc : Nat → Nat} {A : Nat → Prop} {E : Nat → Int → va_E} {nL : Nat}
theorem k_iret {v w : Int} (hX : KX p c cc s m meth args own Ts Dg cA cnt ad oc A nL (some .int)) (hv : v = w) (hW : WP Dg cnt ad E H) (hS : va_S A s.heap H locs) (hdg : decode cc pc = .ok (.ireturn, 1)) :
    W p l e R s m args below meth c H locs 0 0 (MQ below (va_Qi (fun (r : Int32) (_ : Unit) => r = zi w) (gB Dg cnt ad E) A) args s 0 0 A) (F0 m pc ls [.int (zi v)]) :=
  W.iret (v := zi v) hX.1.1 hX.1.2.1 hX.2.2.1 (fun t ht _ => ⟨⟨_, (), rfl, by rw [hv], by show WP Dg cnt ad E t.heap; rw [ht]; exact hW⟩, hS.F ht⟩) hS.2.2 hdg hX.2.2.2.1
theorem k_vret (hX : KX p c cc s m meth args own Ts Dg cA cnt ad oc A nL none) (hW : WP Dg cnt ad E H) (hS : va_S A s.heap H locs) (hdg : decode cc pc = .ok (.return_, 1)) :
    W p l e R s m args below meth c H locs 0 0 (MQ below (va_Qv (fun _ : Unit => True) (gB Dg cnt ad E) A) args s 0 0 A) (F0 m pc ls []) :=
  W.vret hX.1.1 hX.1.2.1 hX.2.2.1 (fun t ht _ => ⟨⟨(), rfl, trivial, by show WP Dg cnt ad E t.heap; rw [ht]; exact hW⟩, hS.F ht⟩) hS.2.2 hdg hX.2.2.2.1
theorem k_aret {rt : FieldType} {o : Nat} (hX : KX p c cc s m meth args own Ts Dg cA cnt ad oc A nL (some rt)) (hW : WP Dg cnt ad E H) (hS : va_S A s.heap H locs) (hdg : decode cc pc = .ok (.areturn, 1)) (hrt : ∃ C, rt = .object C) :
    W p l e R s m args below meth c H locs 0 0 (MQ below (va_Qr (fun _ : Unit => True) (fun (_ : Unit) (a : Nat) (t : State) => a = oc o ∧ WP Dg cnt ad E t.heap) A) args s 0 0 A) (F0 m pc ls [.ref (oc o)]) := by
  obtain ⟨C, rfl⟩ := hrt
  exact W.aret (v := .ref (oc o)) (rt := .object C) hX.1.1 hX.1.2.1 hX.2.2.1 (Or.inl ⟨C, rfl⟩) (Or.inr ⟨_, rfl⟩) (fun t ht _ => ⟨⟨(), oc o, rfl, trivial, rfl, by rw [ht]; exact hW⟩, hS.F ht⟩) hS.2.2 hdg hX.2.2.2.1
end Ends
end BASE2
section BASE3
variable {p : Program} {l : Launch} {e : Env} {R : Room} {s : State} {m : MethodId} {args : Array Value} {below : List Frame} {meth : Method} {c : Code} {H : Heap} {locs : List Loc} {cells slots : Nat} {Q : State → Prop} {cc bytes : ByteArray} {pc index maxL n : Nat} {ls : Array Slot} {rest st0 : List Value} {own C : String} {Ts ws : List Cond} {Dg : va_G} {cA : Nat → ClassId} {cnt : Nat → Int} {ad : Nat → Int → Nat} {oc : Nat → Nat} {A : Nat → Prop} {E E' : Nat → Int → va_E} {nL : Nat} {ret0 : Option FieldType} {y : MethodName} {rm : Room} {b : Nat} {As : List Value}
theorem wa_sub {H0 : Heap} (hA : ∀ (t : Nat) (i : Int), 0 ≤ i → i < cnt t → A (ad t i)) (hn : ∀ q, s.heap.size ≤ q → A q) (hS : va_S A s.heap H locs) : ∀ q, WA cnt ad H.size q → A q := by
  intro q h
  rcases h with ⟨t, i, h0, h1, rfl⟩ | h
  · exact hA t i h0 h1
  · exact hn q (Nat.le_trans hS.1 h)
/-- what a call of a method of this object asks at its start -/
theorem pre_of (hX : KX p c cc s m meth args own Ts Dg cA cnt ad oc A nL ret0) (hW : WP Dg cnt ad E H) (hS : va_S A s.heap H locs) (U : State) (hU : U.heap = H) (hWm : s.WarmedH U.vm) : gPre Dg cA cnt ad oc E As H.size As.toArray U :=
  ⟨rfl, by rw [hU], by rw [hU]; exact hW, va_K.moved hWm.alike hX.1.2.2.2.2.1, by rw [hU]; exact hX.2.2.2.2.1.call hS (wa_sub (H0 := H) hX.1.2.2.2.2.2.2 hX.2.2.2.2.2 hS) hWm⟩
theorem k_callV (hX : KX p c cc s m meth args own Ts Dg cA cnt ad oc A nL ret0) (hls : ls.size = nL) (hM : GV l y ws rm Dg cA cnt ad oc E (.ref b :: As) E') (cw : CallW R s args own C index y bytes maxL none ws rm 0 0 n) (hr : ∃ cell : Cell, H[b]? = some cell ∧ cell.vm.isStatics = false ∧ s.vm.findClass C = some cell.cls) (hW : WP Dg cnt ad E H) (hS : va_S A s.heap H locs) (hf : cells ≤ R.cells ∧ slots ≤ R.slots) (hst : st0 = As.reverse ++ .ref b :: rest) (hn : As.length = n) (hcat : (rest.map fun v => v.category).sum ≤ 8) (hdg : decode cc pc = .ok (.invokevirtual index, 3))
    (kk : ∀ (H1 : Heap) (locs1 : List Loc), WP Dg cnt ad E' H1 → va_S A s.heap H1 locs1 → H.size ≤ H1.size → (∀ q : Nat, q < H.size → ¬ WA cnt ad H.size q → H1[q]? = H[q]?) → W p l e R s m args below meth c H1 locs1 cells slots Q (F0 m (pc + 3) ls rest)) : W p l e R s m args below meth c H locs cells slots Q (F0 m pc ls st0) := by
  have hA1 := wa_sub (H0 := H) hX.1.2.2.2.2.2.2 hX.2.2.2.2.2 hS
  refine va_callv (va_runV (As := As) (rest := rest) ⟨hX.1.1, hX.1.2.1, hX.2.1, hX.1.2.2.1, hX.1.2.2.2.1⟩ (hM H.size) cw ⟨gPre_blind, hr, fun U hU hWm => pre_of hX hW hS U hU hWm⟩ rfl hn hls hst (lv_room hcat) hdg hf) hS (fun q _ h => hA1 q h) hA1 (fun u t H1 locs1 ht _ _ hB hz hk hS1 => ?_)
  have hB : WP Dg cnt ad E' t.heap := hB
  rw [ht] at hB
  exact kk H1 locs1 hB hS1 hz hk
theorem k_callI {rt : FieldType} {v : Int} (hX : KX p c cc s m meth args own Ts Dg cA cnt ad oc A nL ret0) (hls : ls.size = nL) (hM : GI l y ws rm Dg cA cnt ad oc E (.ref b :: As) v E') (cw : CallW R s args own C index y bytes maxL (some rt) ws rm 0 0 n) (hr : ∃ cell : Cell, H[b]? = some cell ∧ cell.vm.isStatics = false ∧ s.vm.findClass C = some cell.cls) (hW : WP Dg cnt ad E H) (hS : va_S A s.heap H locs) (hf : cells ≤ R.cells ∧ slots ≤ R.slots) (hst : st0 = As.reverse ++ .ref b :: rest) (hn : As.length = n) (hcat : (rest.map fun v => v.category).sum ≤ 8) (hdg : decode cc pc = .ok (.invokevirtual index, 3))
    (kk : ∀ (H1 : Heap) (locs1 : List Loc), WP Dg cnt ad E' H1 → va_S A s.heap H1 locs1 → H.size ≤ H1.size → (∀ q : Nat, q < H.size → ¬ WA cnt ad H.size q → H1[q]? = H[q]?) → W p l e R s m args below meth c H1 locs1 cells slots Q (F0 m (pc + 3) ls (.int (zi v) :: rest))) : W p l e R s m args below meth c H locs cells slots Q (F0 m pc ls st0) := by
  have hA1 := wa_sub (H0 := H) hX.1.2.2.2.2.2.2 hX.2.2.2.2.2 hS
  refine va_calli (va_runV (As := As) (rest := rest) ⟨hX.1.1, hX.1.2.1, hX.2.1, hX.1.2.2.1, hX.1.2.2.2.1⟩ (hM H.size) cw ⟨gPre_blind, hr, fun U hU hWm => pre_of hX hW hS U hU hWm⟩ rfl hn hls hst (lv_room hcat) hdg hf) hS (fun q _ h => hA1 q h) hA1 (fun r u t H1 locs1 ht _ hp hB hz hk hS1 => ?_)
  have hB : WP Dg cnt ad E' t.heap := hB
  rw [ht] at hB
  have hp : r = zi v := hp
  subst hp
  exact kk H1 locs1 hB hS1 hz hk
theorem k_callL {v : Int} (hX : KX p c cc s m meth args own Ts Dg cA cnt ad oc A nL ret0) (hls : ls.size = nL) (hM : GL l y ws rm Dg cA cnt ad oc E (.ref b :: As) v E') (cw : CallW R s args own C index y bytes maxL (some .long) ws rm 0 0 n) (hr : ∃ cell : Cell, H[b]? = some cell ∧ cell.vm.isStatics = false ∧ s.vm.findClass C = some cell.cls) (hW : WP Dg cnt ad E H) (hS : va_S A s.heap H locs) (hf : cells ≤ R.cells ∧ slots ≤ R.slots) (hst : st0 = As.reverse ++ .ref b :: rest) (hn : As.length = n) (hcat : (rest.map fun v => v.category).sum ≤ 8) (hdg : decode cc pc = .ok (.invokevirtual index, 3))
    (kk : ∀ (H1 : Heap) (locs1 : List Loc), WP Dg cnt ad E' H1 → va_S A s.heap H1 locs1 → H.size ≤ H1.size → (∀ q : Nat, q < H.size → ¬ WA cnt ad H.size q → H1[q]? = H[q]?) → W p l e R s m args below meth c H1 locs1 cells slots Q (F0 m (pc + 3) ls (.long (zl v) :: rest))) : W p l e R s m args below meth c H locs cells slots Q (F0 m pc ls st0) := by
  have hA1 := wa_sub (H0 := H) hX.1.2.2.2.2.2.2 hX.2.2.2.2.2 hS
  refine va_calll (va_runV (As := As) (rest := rest) ⟨hX.1.1, hX.1.2.1, hX.2.1, hX.1.2.2.1, hX.1.2.2.2.1⟩ (hM H.size) cw ⟨gPre_blind, hr, fun U hU hWm => pre_of hX hW hS U hU hWm⟩ rfl hn hls hst (lv_room hcat) hdg hf) hS (fun q _ h => hA1 q h) hA1 (fun r u t H1 locs1 ht _ hp hB hz hk hS1 => ?_)
  have hB : WP Dg cnt ad E' t.heap := hB
  rw [ht] at hB
  have hp : r = zl v := hp
  subst hp
  exact kk H1 locs1 hB hS1 hz hk
theorem k_callR {rt : FieldType} {v : Nat} (hX : KX p c cc s m meth args own Ts Dg cA cnt ad oc A nL ret0) (hls : ls.size = nL) (hM : GR l y ws rm Dg cA cnt ad oc E (.ref b :: As) v E') (cw : CallW R s args own C index y bytes maxL (some rt) ws rm 0 0 n) (hr : ∃ cell : Cell, H[b]? = some cell ∧ cell.vm.isStatics = false ∧ s.vm.findClass C = some cell.cls) (hW : WP Dg cnt ad E H) (hS : va_S A s.heap H locs) (hf : cells ≤ R.cells ∧ slots ≤ R.slots) (hst : st0 = As.reverse ++ .ref b :: rest) (hn : As.length = n) (hcat : (rest.map fun v => v.category).sum ≤ 8) (hdg : decode cc pc = .ok (.invokevirtual index, 3))
    (kk : ∀ (H1 : Heap) (locs1 : List Loc), WP Dg cnt ad E' H1 → va_S A s.heap H1 locs1 → H.size ≤ H1.size → (∀ q : Nat, q < H.size → ¬ WA cnt ad H.size q → H1[q]? = H[q]?) → W p l e R s m args below meth c H1 locs1 cells slots Q (F0 m (pc + 3) ls (.ref (oc v) :: rest))) : W p l e R s m args below meth c H locs cells slots Q (F0 m pc ls st0) := by
  have hA1 := wa_sub (H0 := H) hX.1.2.2.2.2.2.2 hX.2.2.2.2.2 hS
  refine va_callr (va_runV (As := As) (rest := rest) ⟨hX.1.1, hX.1.2.1, hX.2.1, hX.1.2.2.1, hX.1.2.2.2.1⟩ (hM H.size) cw ⟨gPre_blind, hr, fun U hU hWm => pre_of hX hW hS U hU hWm⟩ rfl hn hls hst (lv_room hcat) hdg hf) hS (fun q _ h => hA1 q h) hA1 (fun u ra t H1 locs1 ht _ _ hB hz hk hS1 => ?_)
  obtain ⟨rfl, hB⟩ := hB
  rw [ht] at hB
  exact kk H1 locs1 hB hS1 hz hk
theorem k_callSV (hX : KX p c cc s m meth args own Ts Dg cA cnt ad oc A nL ret0) (hls : ls.size = nL) (hM : GV l y ws rm Dg cA cnt ad oc E As E') (cw : CallB R s args own index y bytes maxL none ws rm 0 0 n ∧ (Cond.static y).before args s = true) (hW : WP Dg cnt ad E H) (hS : va_S A s.heap H locs) (hf : cells ≤ R.cells ∧ slots ≤ R.slots) (hst : st0 = As.reverse ++ rest) (hn : As.length = n) (hcat : (rest.map fun v => v.category).sum ≤ 8) (hdg : decode cc pc = .ok (.invokestatic index, 3))
    (kk : ∀ (H1 : Heap) (locs1 : List Loc), WP Dg cnt ad E' H1 → va_S A s.heap H1 locs1 → H.size ≤ H1.size → (∀ q : Nat, q < H.size → ¬ WA cnt ad H.size q → H1[q]? = H[q]?) → W p l e R s m args below meth c H1 locs1 cells slots Q (F0 m (pc + 3) ls rest)) : W p l e R s m args below meth c H locs cells slots Q (F0 m pc ls st0) := by
  have hA1 := wa_sub (H0 := H) hX.1.2.2.2.2.2.2 hX.2.2.2.2.2 hS
  refine va_callv (va_runS (As := As) (rest := rest) ⟨hX.1.1, hX.1.2.1, hX.2.1, hX.1.2.2.1, hX.1.2.2.2.1⟩ (hM H.size) cw ⟨gPre_blind, fun U hU hWm => pre_of hX hW hS U hU hWm⟩ rfl hn hls hst (lv_room hcat) hdg hf) hS (fun q _ h => hA1 q h) hA1 (fun u t H1 locs1 ht _ _ hB hz hk hS1 => ?_)
  have hB : WP Dg cnt ad E' t.heap := hB
  rw [ht] at hB
  exact kk H1 locs1 hB hS1 hz hk
theorem k_callSI {rt : FieldType} {v : Int} (hX : KX p c cc s m meth args own Ts Dg cA cnt ad oc A nL ret0) (hls : ls.size = nL) (hM : GI l y ws rm Dg cA cnt ad oc E As v E') (cw : CallB R s args own index y bytes maxL (some rt) ws rm 0 0 n ∧ (Cond.static y).before args s = true) (hW : WP Dg cnt ad E H) (hS : va_S A s.heap H locs) (hf : cells ≤ R.cells ∧ slots ≤ R.slots) (hst : st0 = As.reverse ++ rest) (hn : As.length = n) (hcat : (rest.map fun v => v.category).sum ≤ 8) (hdg : decode cc pc = .ok (.invokestatic index, 3))
    (kk : ∀ (H1 : Heap) (locs1 : List Loc), WP Dg cnt ad E' H1 → va_S A s.heap H1 locs1 → H.size ≤ H1.size → (∀ q : Nat, q < H.size → ¬ WA cnt ad H.size q → H1[q]? = H[q]?) → W p l e R s m args below meth c H1 locs1 cells slots Q (F0 m (pc + 3) ls (.int (zi v) :: rest))) : W p l e R s m args below meth c H locs cells slots Q (F0 m pc ls st0) := by
  have hA1 := wa_sub (H0 := H) hX.1.2.2.2.2.2.2 hX.2.2.2.2.2 hS
  refine va_calli (va_runS (As := As) (rest := rest) ⟨hX.1.1, hX.1.2.1, hX.2.1, hX.1.2.2.1, hX.1.2.2.2.1⟩ (hM H.size) cw ⟨gPre_blind, fun U hU hWm => pre_of hX hW hS U hU hWm⟩ rfl hn hls hst (lv_room hcat) hdg hf) hS (fun q _ h => hA1 q h) hA1 (fun r u t H1 locs1 ht _ hp hB hz hk hS1 => ?_)
  have hB : WP Dg cnt ad E' t.heap := hB
  rw [ht] at hB
  have hp : r = zi v := hp
  subst hp
  exact kk H1 locs1 hB hS1 hz hk
-- a callee that throws: it goes on to the caller
theorem x_out {Xn : String} {Qc Qa : Array Value → State → Outcome → State → Prop} (hX : KX p c cc s m meth args own Ts Dg cA cnt ad oc A nL ret0) (hno : ∀ x ∈ c.exceptionTable.toList, False) (hS : va_S A s.heap H locs)
    (hr : vx_Run p l e R s m args below meth c H locs 0 0 1 6 (F0 m pc ls st0) rest (fun _ _ _ => False) (vx_X (fun _ : Unit => True) (fun (F : String) (_ : Unit) (t : State) => F = Xn ∧ WP Dg cnt ad E t.heap) (WA cnt ad H.size)) (WA cnt ad H.size)) :
    W p l e R s m args below meth c H locs 0 0 (vx_MQ below Qc (vx_X (fun _ : Unit => True) (fun (F : String) (_ : Unit) (t : State) => F = Xn ∧ WP Dg cnt ad E t.heap) A) args s 1 6 A) (F0 m pc ls st0) := by
  have hA1 := wa_sub (H0 := H) hX.1.2.2.2.2.2.2 hX.2.2.2.2.2 hS
  intro T hT X
  rcases hr T hT X with ⟨v, st₀, t, T', L, h0, X', hL, e1, e2, hF, st⟩ | ⟨q, st₀, t, T', L, F, ce, h0, X', hL, e1, e2, ⟨u, hp, ⟨hb1, hb2⟩, hF⟩, hce, hcv, hcl, st⟩
  · exact hF.elim
  · obtain ⟨k1, k2, k3⟩ := vx_keep h0 e1 hS (fun q _ h => hA1 q h) hA1 hL hF
    subst hb1
    have hb2 : WP Dg cnt ad E T'.heap := by rw [e1]; exact hb2
    obtain ⟨t2, a1, b1⟩ := vx_out (p := p) (l := l) (e := e) (R := R) (Qc := Qc) (ls := ls) (rest := rest) (pc := pc) (cells := 0 + 1) (slots := 0 + 6) (fun x hx => (hno x hx).elim) hX.2.2.2.1 (by rw [e1]; exact hce) hcv hcl (XC := vx_X (fun _ : Unit => True) (fun (G : String) (_ : Unit) (t : State) => G = F ∧ WP Dg cnt ad E t.heap) A) (fun t ht _ => ⟨(), trivial, ⟨rfl, by rw [ht]; exact hb2⟩, k3.F ht⟩) k3.2.2 (Nat.le_refl _) (Nat.le_refl _) T' rfl X'
    exact ⟨t2, st.trans a1, b1⟩
theorem k_callX {Xn : String} {Qc : Array Value → State → Outcome → State → Prop} {ret : Option FieldType} (hX : KX p c cc s m meth args own Ts Dg cA cnt ad oc A nL ret0) (hno : ∀ x ∈ c.exceptionTable.toList, False) (hls : ls.size = nL) (hM : GX l y ws rm Dg cA cnt ad oc E (.ref b :: As) Xn) (cw : CallW R s args own C index y bytes maxL ret ws rm 1 6 n) (hr : ∃ cell : Cell, H[b]? = some cell ∧ cell.vm.isStatics = false ∧ s.vm.findClass C = some cell.cls) (hW : WP Dg cnt ad E H) (hS : va_S A s.heap H locs) (hf : 1 ≤ R.cells ∧ 6 ≤ R.slots) (hst : st0 = As.reverse ++ .ref b :: rest) (hn : As.length = n) (hcat : (rest.map fun v => v.category).sum ≤ 8) (hdg : decode cc pc = .ok (.invokevirtual index, 3)) :
    W p l e R s m args below meth c H locs 0 0 (vx_MQ below Qc (vx_X (fun _ : Unit => True) (fun (F : String) (_ : Unit) (t : State) => F = Xn ∧ WP Dg cnt ad E t.heap) A) args s 1 6 A) (F0 m pc ls st0) :=
  x_out (Qa := Qc) hX hno hS (vx_runV (As := As) (rest := rest) ⟨hX.1.1, hX.1.2.1, hX.2.1, hX.1.2.2.1, hX.1.2.2.2.1⟩ (hM H.size) cw ⟨gPre_blind, hr, fun U hU hWm => pre_of hX hW hS U hU hWm⟩ rfl hn hls hst (lv_room hcat) hdg (by omega))
theorem k_callSX {Xn : String} {Qc : Array Value → State → Outcome → State → Prop} {ret : Option FieldType} (hX : KX p c cc s m meth args own Ts Dg cA cnt ad oc A nL ret0) (hno : ∀ x ∈ c.exceptionTable.toList, False) (hls : ls.size = nL) (hM : GX l y ws rm Dg cA cnt ad oc E As Xn) (cw : CallB R s args own index y bytes maxL ret ws rm 1 6 n ∧ (Cond.static y).before args s = true) (hW : WP Dg cnt ad E H) (hS : va_S A s.heap H locs) (hf : 1 ≤ R.cells ∧ 6 ≤ R.slots) (hst : st0 = As.reverse ++ rest) (hn : As.length = n) (hcat : (rest.map fun v => v.category).sum ≤ 8) (hdg : decode cc pc = .ok (.invokestatic index, 3)) :
    W p l e R s m args below meth c H locs 0 0 (vx_MQ below Qc (vx_X (fun _ : Unit => True) (fun (F : String) (_ : Unit) (t : State) => F = Xn ∧ WP Dg cnt ad E t.heap) A) args s 1 6 A) (F0 m pc ls st0) :=
  x_out (Qa := Qc) hX hno hS (vx_runS (As := As) (rest := rest) ⟨hX.1.1, hX.1.2.1, hX.2.1, hX.1.2.2.1, hX.1.2.2.2.1⟩ (hM H.size) cw ⟨gPre_blind, fun U hU hWm => pre_of hX hW hS U hU hWm⟩ rfl hn hls hst (lv_room hcat) hdg (by omega))
/-- 'throw new X(text)' -/
theorem k_throw {Xn text : String} {ik is ic : Nat} {Qc : Array Value → State → Outcome → State → Prop} (hX : KX p c cc s m meth args own Ts Dg cA cnt ad oc A nL ret0) (how : own = "KioskReel") (hno : ∀ x ∈ c.exceptionTable.toList, False) (hls : ls.size = nL) (hl : l.stackTraces = false) (hfit : Bundle.fit Xn = true)
    (hk : Cond.classLink own ik Xn ∈ Ts) (hini : Cond.initialized Xn ∈ Ts) (hstr : (is, text) ∈ strL) (hat : ∀ w ∈ vx_atS own ic Xn ["java/lang/RuntimeException", "java/lang/Exception"], w ∈ Ts)
    (hgood : ∀ w ∈ Cond.classLink own ik Xn :: Cond.initialized Xn :: vx_atS own ic Xn ["java/lang/RuntimeException", "java/lang/Exception"], vx_ot w = true) (hW : WP Dg cnt ad E H) (hS : va_S A s.heap H locs)
    (d0 : decode cc pc = .ok (.new ik, 3)) (d3 : decode cc (pc + 3) = .ok (.dup, 1)) (d4 : decode cc (pc + 4) = .ok (.ldc is, 2)) (d6 : decode cc (pc + 6) = .ok (.invokespecial ic, 3)) (d9 : decode cc (pc + 9) = .ok (.athrow, 1))
    (hR : 5 < R.frames ∧ (rest.map fun v => v.category).sum + 82 ≤ R.locals ∧ 1 ≤ R.cells ∧ 6 ≤ R.slots) :
    W p l e R s m args below meth c H locs 0 0 (vx_MQ below Qc (vx_X (fun _ : Unit => True) (fun (F : String) (_ : Unit) (t : State) => F = Xn ∧ WP Dg cnt ad E t.heap) A) args s 1 6 A) (F0 m pc ls rest) := by
  subst how
  obtain ⟨⟨hx, hb, hown, hts, hK, hI, hA⟩, hml, -, hlk, hE, hAn⟩ := hX
  obtain ⟨-, -, -, -, hU, hN, hT⟩ := hE
  obtain ⟨sa, hsa⟩ := hT _ hstr
  exact vx_throwS hx hb hl hown hfit (by decide) (hts _ hk) (hts _ hini) hsa (fun w hw => hts w (hat w hw)) hgood hU hN hS (hls.trans hml.symm) d0 d3 d4 d6 d9 (fun x hx => (hno x hx).elim) (by have := hR.1; simp only [List.length_cons, List.length_nil]; omega) (by have := hR.2.1; simp only [List.length_cons, List.length_nil]; omega) (by omega) (by omega) hlk
    (fun t _ hz hk => ⟨(), trivial, ⟨rfl, hW.kept (fun t' i h0 h1 => hk _ (hW.lt h0 h1))⟩, ⟨Nat.le_trans hS.1 hz, fun q h1 h2 => (hk q (Nat.lt_of_lt_of_le h1 hS.1)).trans (hS.2.1 q h1 h2)⟩⟩) hS.2.2 (Nat.le_refl _) (Nat.le_refl _)
theorem k_throwW {Xn text : String} {ik is ic : Nat} {Qc : Array Value → State → Outcome → State → Prop} (hX : KX p c cc s m meth args own Ts Dg cA cnt ad oc A nL ret0) (how : own = "KioskReel") (hno : ∀ x ∈ c.exceptionTable.toList, False) (hls : ls.size = nL) (hl : l.stackTraces = false) (hfit : Bundle.fit Xn = true)
    (hk : Cond.classLink own ik Xn ∈ Ts) (hini : Cond.initialized Xn ∈ Ts) (hstr : (is, text) ∈ strL) (hat : ∀ w ∈ vx_atS own ic Xn ["java/lang/RuntimeException", "java/lang/Exception"], w ∈ Ts)
    (hgood : ∀ w ∈ Cond.classLink own ik Xn :: Cond.initialized Xn :: vx_atS own ic Xn ["java/lang/RuntimeException", "java/lang/Exception"], vx_ot w = true) (hW : WP Dg cnt ad E H) (hS : va_S A s.heap H locs)
    (d0 : decode cc pc = .ok (.new ik, 3)) (d3 : decode cc (pc + 3) = .ok (.dup, 1)) (d4 : decode cc (pc + 4) = .ok (.ldc_w is, 3)) (d6 : decode cc (pc + 7) = .ok (.invokespecial ic, 3)) (d9 : decode cc (pc + 10) = .ok (.athrow, 1))
    (hR : 5 < R.frames ∧ (rest.map fun v => v.category).sum + 82 ≤ R.locals ∧ 1 ≤ R.cells ∧ 6 ≤ R.slots) :
    W p l e R s m args below meth c H locs 0 0 (vx_MQ below Qc (vx_X (fun _ : Unit => True) (fun (F : String) (_ : Unit) (t : State) => F = Xn ∧ WP Dg cnt ad E t.heap) A) args s 1 6 A) (F0 m pc ls rest) := by
  subst how
  obtain ⟨⟨hx, hb, hown, hts, hK, hI, hA⟩, hml, -, hlk, hE, hAn⟩ := hX
  obtain ⟨-, -, -, -, hU, hN, hT⟩ := hE
  obtain ⟨sa, hsa⟩ := hT _ hstr
  exact vx_throwSW hx hb hl hown hfit (by decide) (hts _ hk) (hts _ hini) hsa (fun w hw => hts w (hat w hw)) hgood hU hN hS (hls.trans hml.symm) d0 d3 d4 d6 d9 (fun x hx => (hno x hx).elim) (by have := hR.1; simp only [List.length_cons, List.length_nil]; omega) (by have := hR.2.1; simp only [List.length_cons, List.length_nil]; omega) (by omega) (by omega) hlk
    (fun t _ hz hk => ⟨(), trivial, ⟨rfl, hW.kept (fun t' i h0 h1 => hk _ (hW.lt h0 h1))⟩, ⟨Nat.le_trans hS.1 hz, fun q h1 h2 => (hk q (Nat.lt_of_lt_of_le h1 hS.1)).trans (hS.2.1 q h1 h2)⟩⟩) hS.2.2 (Nat.le_refl _) (Nat.le_refl _)
theorem nx_athrow {q : Addr} (hexec : p.tables.exec = Jvm.exec) (hb : c.code = cc) (hdg : decode cc pc = .ok (.athrow, 1)) (k : vx_W p l e R s m args below meth c H locs cells slots Q (F0 m pc ls rest) q) : W p l e R s m args below meth c H locs cells slots Q (F0 m pc ls (.ref q :: rest)) := by
  intro T hT X
  obtain ⟨t, st, hq⟩ := k T hT X
  refine ⟨t, ?_, hq⟩
  have hdg' : decode c.code pc = .ok (.athrow, 1) := by rw [hb]; exact hdg
  jvm_step X.here [X.here.top, hexec, hdg', athrow.wp_sem]
  exact st
theorem x_end {Xn : String} {H1 : Heap} {q : Nat} {ce : Cell} {Qc : Array Value → State → Outcome → State → Prop} (hX : KX p c cc s m meth args own Ts Dg cA cnt ad oc A nL ret0) (hno : ∀ x ∈ c.exceptionTable.toList, False) (hW : WP Dg cnt ad E H) (hS : va_S A s.heap H locs) (hq : H1[q]? = some ce) (hv : ce.vm = .none) (hcl : s.vm.findClass Xn = some ce.cls) (hz : H.size ≤ H1.size) (hk : ∀ x : Nat, x < H.size → H1[x]? = H[x]?) (hdg : decode cc pc = .ok (.athrow, 1)) :
    W p l e R s m args below meth c H1 locs (0 + 1) (0 + 6) (vx_MQ below Qc (vx_X (fun _ : Unit => True) (fun (F : String) (_ : Unit) (t : State) => F = Xn ∧ WP Dg cnt ad E t.heap) A) args s 1 6 A) (F0 m pc ls (.ref q :: rest)) :=
  nx_athrow hX.1.1 hX.1.2.1 hdg (vx_out (fun x hx => (hno x hx).elim) hX.2.2.2.1 hq hv hcl (fun t ht _ => ⟨(), trivial, ⟨rfl, by rw [ht]; exact hW.kept (fun t' i h0 h1 => hk _ (hW.lt h0 h1))⟩, by rw [ht]; exact Nat.le_trans hS.1 hz, fun x h1 h2 => by rw [ht]; exact (hk x (Nat.lt_of_lt_of_le h1 hS.1)).trans (hS.2.1 x h1 h2)⟩) hS.2.2 (Nat.le_refl _) (Nat.le_refl _))
theorem k_throwN {Xn text : String} {ik is ic : Nat} {Qc : Array Value → State → Outcome → State → Prop} (hX : KX p c cc s m meth args own Ts Dg cA cnt ad oc A nL ret0) (how : own = "KioskReel") (hno : ∀ x ∈ c.exceptionTable.toList, False) (hls : ls.size = nL) (hl : l.stackTraces = false) (hfit : Bundle.fit Xn = true)
    (hk : Cond.classLink own ik Xn ∈ Ts) (hini : Cond.initialized Xn ∈ Ts) (hstr : (is, text) ∈ strL) (hat : ∀ w ∈ nx_atS own ic Xn ["java/lang/RuntimeException", "java/lang/Exception"], w ∈ Ts)
    (hgood : ∀ w ∈ Cond.classLink own ik Xn :: Cond.initialized Xn :: nx_atS own ic Xn ["java/lang/RuntimeException", "java/lang/Exception"], vx_ot w = true) (hW : WP Dg cnt ad E H) (hS : va_S A s.heap H locs)
    (d0 : decode cc pc = .ok (.new ik, 3)) (d3 : decode cc (pc + 3) = .ok (.dup, 1)) (d4 : decode cc (pc + 4) = .ok (.ldc is, 2)) (d6 : decode cc (pc + 6) = .ok (.invokespecial ic, 3)) (d9 : decode cc (pc + 9) = .ok (.athrow, 1))
    (hR : 5 < R.frames ∧ (rest.map fun v => v.category).sum + 82 ≤ R.locals ∧ 1 ≤ R.cells ∧ 6 ≤ R.slots) :
    W p l e R s m args below meth c H locs 0 0 (vx_MQ below Qc (vx_X (fun _ : Unit => True) (fun (F : String) (_ : Unit) (t : State) => F = Xn ∧ WP Dg cnt ad E t.heap) A) args s 1 6 A) (F0 m pc ls rest) := by
  subst how
  obtain ⟨sa, hsa⟩ := hX.2.2.2.2.1.2.2.2.2.2.2 _ hstr
  exact nx_make hX.1.1 hX.1.2.1 hl hX.1.2.2.1 hfit (by decide) (hX.1.2.2.2.1 _ hk) (hX.1.2.2.2.1 _ hini) hsa (fun w hw => hX.1.2.2.2.1 w (hat w hw)) hgood hX.2.2.2.2.1.2.2.2.2.1 hX.2.2.2.2.1.2.2.2.2.2.1 hS (hls.trans hX.2.1.symm) d0 d3 d4 d6 (by have := hR.1; simp only [List.length_cons, List.length_nil]; omega) (by have := hR.2.1; simp only [List.length_cons, List.length_nil]; omega) (by omega) (by omega)
    (fun q H1 ce hq hv hcl hz hk => x_end hX hno hW hS hq hv hcl hz hk d9)
theorem k_throwNW {Xn text : String} {ik is ic : Nat} {Qc : Array Value → State → Outcome → State → Prop} (hX : KX p c cc s m meth args own Ts Dg cA cnt ad oc A nL ret0) (how : own = "KioskReel") (hno : ∀ x ∈ c.exceptionTable.toList, False) (hls : ls.size = nL) (hl : l.stackTraces = false) (hfit : Bundle.fit Xn = true)
    (hk : Cond.classLink own ik Xn ∈ Ts) (hini : Cond.initialized Xn ∈ Ts) (hstr : (is, text) ∈ strL) (hat : ∀ w ∈ nx_atS own ic Xn ["java/lang/RuntimeException", "java/lang/Exception"], w ∈ Ts)
    (hgood : ∀ w ∈ Cond.classLink own ik Xn :: Cond.initialized Xn :: nx_atS own ic Xn ["java/lang/RuntimeException", "java/lang/Exception"], vx_ot w = true) (hW : WP Dg cnt ad E H) (hS : va_S A s.heap H locs)
    (d0 : decode cc pc = .ok (.new ik, 3)) (d3 : decode cc (pc + 3) = .ok (.dup, 1)) (d4 : decode cc (pc + 4) = .ok (.ldc_w is, 3)) (d6 : decode cc (pc + 7) = .ok (.invokespecial ic, 3)) (d9 : decode cc (pc + 10) = .ok (.athrow, 1))
    (hR : 5 < R.frames ∧ (rest.map fun v => v.category).sum + 82 ≤ R.locals ∧ 1 ≤ R.cells ∧ 6 ≤ R.slots) :
    W p l e R s m args below meth c H locs 0 0 (vx_MQ below Qc (vx_X (fun _ : Unit => True) (fun (F : String) (_ : Unit) (t : State) => F = Xn ∧ WP Dg cnt ad E t.heap) A) args s 1 6 A) (F0 m pc ls rest) := by
  subst how
  obtain ⟨sa, hsa⟩ := hX.2.2.2.2.1.2.2.2.2.2.2 _ hstr
  exact nx_makeW hX.1.1 hX.1.2.1 hl hX.1.2.2.1 hfit (by decide) (hX.1.2.2.2.1 _ hk) (hX.1.2.2.2.1 _ hini) hsa (fun w hw => hX.1.2.2.2.1 w (hat w hw)) hgood hX.2.2.2.2.1.2.2.2.2.1 hX.2.2.2.2.1.2.2.2.2.2.1 hS (hls.trans hX.2.1.symm) d0 d3 d4 d6 (by have := hR.1; simp only [List.length_cons, List.length_nil]; omega) (by have := hR.2.1; simp only [List.length_cons, List.length_nil]; omega) (by omega) (by omega)
    (fun q H1 ce hq hv hcl hz hk => x_end hX hno hW hS hq hv hcl hz hk d9)
/-- an outcome, read -/
theorem k_out {n : String} (k : Nat) (hX : KX p c cc s m meth args own Ts Dg cA cnt ad oc A nL ret0) (hS : va_S A s.heap H locs) (hn : (k = 0 ∧ n = "GOES_ON") ∨ (k = 1 ∧ n = "SHOWN") ∨ (k = 2 ∧ n = "ENDS_TURN")) (hl : (Cond.fieldLink own index "KioskReel$Outcome" n "LKioskReel$Outcome;").before args s = true) (hdg : decode cc pc = .ok (.getstatic index, 3))
    (kk : W p l e R s m args below meth c H locs cells slots Q (F0 m (pc + 3) ls (.ref (oc k) :: rest))) : W p l e R s m args below meth c H locs cells slots Q (F0 m pc ls rest) := by
  rcases hn with ⟨rfl, rfl⟩ | ⟨rfl, rfl⟩ | ⟨rfl, rfl⟩
  · exact va_gets hX.1.1 hX.1.2.1 hX.2.2.2.2.1.1 hS hX.1.2.2.1 hl (fun _ h => h) hdg kk
  · exact va_gets hX.1.1 hX.1.2.1 hX.2.2.2.2.1.2.1 hS hX.1.2.2.1 hl (fun _ h => h) hdg kk
  · exact va_gets hX.1.1 hX.1.2.1 hX.2.2.2.2.1.2.2.1 hS hX.1.2.2.1 hl (fun _ h => h) hdg kk
theorem k_zret {v w : Int} (hX : KX p c cc s m meth args own Ts Dg cA cnt ad oc A nL (some .boolean)) (hz : v = 0 ∨ v = 1) (hv : v = w) (hW : WP Dg cnt ad E H) (hS : va_S A s.heap H locs) (hdg : decode cc pc = .ok (.ireturn, 1)) :
    W p l e R s m args below meth c H locs 0 0 (MQ below (va_Qi (fun (r : Int32) (_ : Unit) => r = zi w) (gB Dg cnt ad E) A) args s 0 0 A) (F0 m pc ls [.int (zi v)]) :=
  W.zret (v := zi v) hX.1.1 hX.1.2.1 hX.2.2.1 (by rcases hz with rfl | rfl <;> decide) (fun t ht _ => ⟨⟨_, (), rfl, by rw [hv], by show WP Dg cnt ad E t.heap; rw [ht]; exact hW⟩, hS.F ht⟩) hS.2.2 hdg hX.2.2.2.1
theorem k_cret {v w : Int} (hX : KX p c cc s m meth args own Ts Dg cA cnt ad oc A nL (some .char)) (hz : 0 ≤ v ∧ v < 65536) (hv : v = w) (hW : WP Dg cnt ad E H) (hS : va_S A s.heap H locs) (hdg : decode cc pc = .ok (.ireturn, 1)) :
    W p l e R s m args below meth c H locs 0 0 (MQ below (va_Qi (fun (r : Int32) (_ : Unit) => r = zi w) (gB Dg cnt ad E) A) args s 0 0 A) (F0 m pc ls [.int (zi v)]) :=
  W.zret (v := zi v) hX.1.1 hX.1.2.1 hX.2.2.1 (by rw [zi_nI hz.1]; exact nar_c _ (by omega)) (fun t ht _ => ⟨⟨_, (), rfl, by rw [hv], by show WP Dg cnt ad E t.heap; rw [ht]; exact hW⟩, hS.F ht⟩) hS.2.2 hdg hX.2.2.2.1
theorem k_lret {v w : Int} (hX : KX p c cc s m meth args own Ts Dg cA cnt ad oc A nL (some .long)) (hv : v = w) (hW : WP Dg cnt ad E H) (hS : va_S A s.heap H locs) (hdg : decode cc pc = .ok (.lreturn, 1)) :
    W p l e R s m args below meth c H locs 0 0 (MQ below (va_Ql (fun (r : Int64) (_ : Unit) => r = zl w) (gB Dg cnt ad E) A) args s 0 0 A) (F0 m pc ls [.long (zl v)]) :=
  W.lret (v := zl v) hX.1.1 hX.1.2.1 hX.2.2.1 (fun t ht _ => ⟨⟨_, (), rfl, by rw [hv], by show WP Dg cnt ad E t.heap; rw [ht]; exact hW⟩, hS.F ht⟩) hS.2.2 hdg hX.2.2.2.1
theorem zl_i {x : Int} (h : -2147483648 ≤ x ∧ x < 2147483648) : (zi x).toInt64 = zl x := by
  unfold zi zl
  exact Int32.toInt64_ofInt (by rw [show Int32.minValue.toInt = -2147483648 from by decide]; exact h.1) (by rw [show Int32.maxValue.toInt = 2147483647 from by decide]; omega)
theorem k_i2l (hC : CX p c cc s m args own Ts Dg cA cnt ad A) {a : Int} (hdg : decode cc pc = .ok (.i2l, 1)) (hs : -2147483648 ≤ a ∧ a < 2147483648) (kk : W p l e R s m args below meth c H locs cells slots Q (F0 m (pc + 1) ls (.long (zl a) :: rest))) : W p l e R s m args below meth c H locs cells slots Q (F0 m pc ls (.int (zi a) :: rest)) :=
  lv_i2l hC.1 hC.2.1 hdg (zl_i hs) kk
theorem k_lconst (hC : CX p c cc s m args own Ts Dg cA cnt ad A) {n : Fin 2} {v : Int} (hdg : decode cc pc = .ok (.lconst n, 1)) (hv : Int64.ofNat (n : Nat) = zl v) (kk : W p l e R s m args below meth c H locs cells slots Q (F0 m (pc + 1) ls (.long (zl v) :: rest))) : W p l e R s m args below meth c H locs cells slots Q (F0 m pc ls rest) :=
  lv_lconst hC.1 hC.2.1 hdg hv kk
theorem k_acmp_ne_t {off : Int} {a b : Nat} {tgt : Nat} (hC : CX p c cc s m args own Ts Dg cA cnt ad A) (hdg : decode cc pc = .ok (.if_acmp .ne off, 3)) (ht : (pc : Int) + off = (tgt : Int)) (hab : a ≠ b) (kk : W p l e R s m args below meth c H locs cells slots Q (F0 m tgt ls rest)) : W p l e R s m args below meth c H locs cells slots Q (F0 m pc ls (.ref b :: .ref a :: rest)) :=
  lv_acmp_ne (rx := some a) (ry := some b) hC.1 hC.2.1 hdg ht (fun _ => kk) (fun h => absurd (Option.some.inj h) hab)
theorem k_acmp_ne_f {off : Int} {a b : Nat} {tgt : Nat} (hC : CX p c cc s m args own Ts Dg cA cnt ad A) (hdg : decode cc pc = .ok (.if_acmp .ne off, 3)) (ht : (pc : Int) + off = (tgt : Int)) (hab : a = b) (kk : W p l e R s m args below meth c H locs cells slots Q (F0 m (pc + 3) ls rest)) : W p l e R s m args below meth c H locs cells slots Q (F0 m pc ls (.ref b :: .ref a :: rest)) :=
  lv_acmp_ne (rx := some a) (ry := some b) hC.1 hC.2.1 hdg ht (fun h => absurd (congrArg some hab) h) (fun _ => kk)
-- receivers
theorem k_recv {C : String} {T : u_T} {N ci : Nat} {fs : List Value} (hX : CX p c cc s m args own Ts Dg cA cnt ad A) (hW : WP Dg cnt ad E H) {t : Nat} {i : Int} (h0 : 0 ≤ i) (h1 : i < cnt t) (he : E t i = .inr (ci, fs)) (hc : vwCl[ci]? = some (C, T, N)) : ∃ cell : Cell, H[ad t i]? = some cell ∧ cell.vm.isStatics = false ∧ s.vm.findClass C = some cell.cls :=
  va_recv hX.2.2.2.2.1 (hW.one h0 h1 he) (q := (C, T, N)) (ci := ci) (q0 := 0) hc rfl
variable {σ : St}
theorem rc_KR (hX : CX p c cc s m args own Ts Dg cA ccnt ad A) (hW : WP Dg ccnt ad (cE cA ad σ) H) : ∃ cell : Cell, H[ad 0 0]? = some cell ∧ cell.vm.isStatics = false ∧ s.vm.findClass RX7 = some cell.cls := k_recv hX hW (by decide) (by decide) rfl rfl
theorem rc_Reel (hX : CX p c cc s m args own Ts Dg cA ccnt ad A) (hW : WP Dg ccnt ad (cE cA ad σ) H) {i : Int} (h : 0 ≤ i ∧ i < 32) : ∃ cell : Cell, H[ad 6 i]? = some cell ∧ cell.vm.isStatics = false ∧ s.vm.findClass RX5 = some cell.cls := k_recv hX hW h.1 h.2 rfl rfl
theorem rc_Player (hX : CX p c cc s m args own Ts Dg cA ccnt ad A) (hW : WP Dg ccnt ad (cE cA ad σ) H) {i : Int} (h : 0 ≤ i ∧ i < 6) : ∃ cell : Cell, H[ad 10 i]? = some cell ∧ cell.vm.isStatics = false ∧ s.vm.findClass RX3 = some cell.cls := k_recv hX hW h.1 h.2 rfl rfl
theorem rc_Visitor (hX : CX p c cc s m args own Ts Dg cA ccnt ad A) (hW : WP Dg ccnt ad (cE cA ad σ) H) {i : Int} (h : 0 ≤ i ∧ i < 10) : ∃ cell : Cell, H[ad 14 i]? = some cell ∧ cell.vm.isStatics = false ∧ s.vm.findClass RX6 = some cell.cls := k_recv hX hW h.1 h.2 rfl rfl
theorem rc_Row (hX : CX p c cc s m args own Ts Dg cA ccnt ad A) (hW : WP Dg ccnt ad (cE cA ad σ) H) {i : Int} (h : 0 ≤ i ∧ i < 12) : ∃ cell : Cell, H[ad 18 i]? = some cell ∧ cell.vm.isStatics = false ∧ s.vm.findClass RX4 = some cell.cls := k_recv hX hW h.1 h.2 rfl rfl
theorem rc_M (hX : CX p c cc s m args own Ts Dg cA mcnt ad A) (hW : WP Dg mcnt ad (mE cA ad σ) H) : ∃ cell : Cell, H[ad 0 0]? = some cell ∧ cell.vm.isStatics = false ∧ s.vm.findClass RX8 = some cell.cls := k_recv hX hW (by decide) (by decide) rfl rfl
-- what the first object's cells don't speak of
theorem gh {u : Nat} {i j v : Int} (hu : ∀ a b : Int, (cow u a b).1 = 99) (h : WP Dg ccnt ad (cE cA ad σ) H) : WP Dg ccnt ad (cE cA ad (ups σ u i j v)) H :=
  cE_same h (fun t a b ht => (ups_t σ (fun z => ht (by rw [z]; exact hu a b)) i j v a b).symm)
theorem gh7 {i j v : Int} (hj : j ≠ 0) (h : WP Dg ccnt ad (cE cA ad σ) H) : WP Dg ccnt ad (cE cA ad (ups σ 7 i j v)) H :=
  cE_same h (fun t a b ht => by
    unfold ups
    rw [if_neg]
    rintro ⟨rfl, rfl, rfl⟩
    exact ht (by simp [cow, hj]))
theorem ghM {u : Nat} {i j v : Int} (hu : ∀ a : Int, mow u a = 99) (h : WP Dg mcnt ad (mE cA ad σ) H) : WP Dg mcnt ad (mE cA ad (ups σ u i j v)) H :=
  mE_same h (fun t a b ht => (ups_t σ (fun z => ht (by rw [z]; exact hu a)) i j v a b).symm)
end BASE3
end
section
section MATH1
theorem sw {Dg : va_G} {cnt : Nat → Int} {ad : Nat → Int → Nat} {F : St → Nat → Int → va_E} {σ σ' : St} {H : Heap} (h : WP Dg cnt ad (F σ) H) (he : σ = σ') : WP Dg cnt ad (F σ') H := he ▸ h
-- counting
def cntB (f : Int → Bool) : Nat → Int
  | 0 => 0
  | n + 1 => cntB f n + (if f (n : Int) = true then 1 else 0)
def cN (f : Int → Bool) (i : Int) : Int := cntB f i.toNat
theorem cN_0 (f : Int → Bool) : cN f 0 = 0 := rfl
theorem cN_s (f : Int → Bool) {i : Int} (h : 0 ≤ i) : cN f (i + 1) = cN f i + (if f i = true then 1 else 0) := by
  unfold cN
  rw [show (i + 1).toNat = i.toNat + 1 by omega, cntB, Int.toNat_of_nonneg h]
theorem cntB_rng (f : Int → Bool) : ∀ n : Nat, 0 ≤ cntB f n ∧ cntB f n ≤ n
  | 0 => ⟨Int.le_refl _, Int.le_refl _⟩
  | n + 1 => by
    have ih := cntB_rng f n
    rw [cntB]
    split <;> constructor <;> omega
theorem cN_rng (f : Int → Bool) {i : Int} (h : 0 ≤ i) : 0 ≤ cN f i ∧ cN f i ≤ i := by
  have := cntB_rng f i.toNat
  unfold cN
  omega
theorem cN_t (f : Int → Bool) {i : Int} (h : 0 ≤ i) (hf : f i = true) : cN f (i + 1) = cN f i + 1 := by rw [cN_s f h, if_pos hf]
theorem cN_f (f : Int → Bool) {i : Int} (h : 0 ≤ i) (hf : f i = false) : cN f (i + 1) = cN f i := by rw [cN_s f h, if_neg (by rw [hf]; decide)]; omega
-- reels: 1 kinds, 2 numbers, 3 size
def insP (σ : St) (r m : Int) : St := fun t i j => if (t = 1 ∨ t = 2) ∧ i = r ∧ m < j ∧ j ≤ σ 3 r 0 then σ t r (j - 1) else σ t i j
def fIns (σ : St) (r place k n : Int) : St := ups (ups (ups (insP σ r place) 1 r place k) 2 r place n) 3 r 0 (σ 3 r 0 + 1)
theorem insP_0 (σ : St) (r : Int) : insP σ r (σ 3 r 0) = σ := by
  funext t i j
  unfold insP
  rw [if_neg (by omega)]
theorem insP_rd (σ : St) (t : Nat) (r m : Int) {j : Int} (h : j ≤ m) : insP σ r m t r j = σ t r j := by
  unfold insP
  rw [if_neg (by omega)]
theorem insP_o (σ : St) (r m : Int) {t : Nat} (h1 : t ≠ 1) (h2 : t ≠ 2) (i j : Int) : insP σ r m t i j = σ t i j := by
  unfold insP
  rw [if_neg (by omega)]
theorem insP_s (σ : St) {r m : Int} (h : m ≤ σ 3 r 0) : ups (ups (insP σ r m) 1 r m (σ 1 r (m - 1))) 2 r m (σ 2 r (m - 1)) = insP σ r (m - 1) := by
  funext t i j
  simp only [ups, insP]
  by_cases h1 : t = 1
  · subst h1
    by_cases h2 : i = r
    · subst h2
      by_cases h3 : j = m
      · subst h3; rw [if_neg (by omega), if_pos (by omega), if_pos (by omega)]
      · by_cases h4 : m < j ∧ j ≤ σ 3 i 0
        · rw [if_neg (by omega), if_neg (by omega), if_pos (by omega), if_pos (by omega)]
        · rw [if_neg (by omega), if_neg (by omega), if_neg (by omega), if_neg (by omega)]
    · rw [if_neg (by omega), if_neg (by omega), if_neg (by omega), if_neg (by omega)]
  · by_cases h1b : t = 2
    · subst h1b
      by_cases h2 : i = r
      · subst h2
        by_cases h3 : j = m
        · subst h3; rw [if_pos (by omega), if_pos (by omega)]
        · by_cases h4 : m < j ∧ j ≤ σ 3 i 0
          · rw [if_neg (by omega), if_neg (by omega), if_pos (by omega), if_pos (by omega)]
          · rw [if_neg (by omega), if_neg (by omega), if_neg (by omega), if_neg (by omega)]
      · rw [if_neg (by omega), if_neg (by omega), if_neg (by omega), if_neg (by omega)]
    · rw [if_neg (by omega), if_neg (by omega), if_neg (by omega), if_neg (by omega)]
def remP (σ : St) (r place m : Int) : St := fun t i j => if (t = 1 ∨ t = 2) ∧ i = r ∧ place ≤ j ∧ j < m then σ t r (j + 1) else σ t i j
def fRem (σ : St) (r place : Int) : St := remP (ups σ 3 r 0 (σ 3 r 0 - 1)) r place (σ 3 r 0 - 1)
theorem remP_0 (σ : St) (r place : Int) : remP σ r place place = σ := by
  funext t i j
  unfold remP
  rw [if_neg (by omega)]
theorem remP_rd (σ : St) (t : Nat) (r place : Int) {m j : Int} (h : m ≤ j) : remP σ r place m t r j = σ t r j := by
  unfold remP
  rw [if_neg (by omega)]
theorem remP_o (σ : St) (r place m : Int) {t : Nat} (h1 : t ≠ 1) (h2 : t ≠ 2) (i j : Int) : remP σ r place m t i j = σ t i j := by
  unfold remP
  rw [if_neg (by omega)]
theorem remP_s (σ : St) {r place m : Int} (h : place ≤ m) : ups (ups (remP σ r place m) 1 r m (σ 1 r (m + 1))) 2 r m (σ 2 r (m + 1)) = remP σ r place (m + 1) := by
  funext t i j
  simp only [ups, remP]
  by_cases h1 : t = 1
  · subst h1
    by_cases h2 : i = r
    · subst h2
      by_cases h3 : j = m
      · subst h3; rw [if_neg (by omega), if_pos (by omega), if_pos (by omega)]
      · by_cases h4 : place ≤ j ∧ j < m
        · rw [if_neg (by omega), if_neg (by omega), if_pos (by omega), if_pos (by omega)]
        · rw [if_neg (by omega), if_neg (by omega), if_neg (by omega), if_neg (by omega)]
    · rw [if_neg (by omega), if_neg (by omega), if_neg (by omega), if_neg (by omega)]
  · by_cases h1b : t = 2
    · subst h1b
      by_cases h2 : i = r
      · subst h2
        by_cases h3 : j = m
        · subst h3; rw [if_pos (by omega), if_pos (by omega)]
        · by_cases h4 : place ≤ j ∧ j < m
          · rw [if_neg (by omega), if_neg (by omega), if_pos (by omega), if_pos (by omega)]
          · rw [if_neg (by omega), if_neg (by omega), if_neg (by omega), if_neg (by omega)]
      · rw [if_neg (by omega), if_neg (by omega), if_neg (by omega), if_neg (by omega)]
    · rw [if_neg (by omega), if_neg (by omega), if_neg (by omega), if_neg (by omega)]
def cpP (σ : St) (r q m : Int) : St := fun t i j => if (t = 1 ∨ t = 2) ∧ i = r ∧ 0 ≤ j ∧ j < m then σ t q j else σ t i j
def fCopy (σ : St) (r q : Int) : St := cpP (ups σ 3 r 0 (σ 3 q 0)) r q (σ 3 q 0)
theorem cpP_0 (σ : St) (r q : Int) : cpP σ r q 0 = σ := by
  funext t i j
  unfold cpP
  rw [if_neg (by omega)]
theorem cpP_rd (σ : St) (t : Nat) {r q : Int} (m j : Int) (h : q ≠ r) : cpP σ r q m t q j = σ t q j := by
  unfold cpP
  rw [if_neg (by omega)]
theorem cpP_o (σ : St) (r q m : Int) {t : Nat} (h1 : t ≠ 1) (h2 : t ≠ 2) (i j : Int) : cpP σ r q m t i j = σ t i j := by
  unfold cpP
  rw [if_neg (by omega)]
theorem cpP_s (σ : St) {r q m : Int} (h : 0 ≤ m) : ups (ups (cpP σ r q m) 1 r m (σ 1 q m)) 2 r m (σ 2 q m) = cpP σ r q (m + 1) := by
  funext t i j
  simp only [ups, cpP]
  by_cases h1 : t = 1
  · subst h1
    by_cases h2 : i = r
    · subst h2
      by_cases h3 : j = m
      · subst h3; rw [if_neg (by omega), if_pos (by omega), if_pos (by omega)]
      · by_cases h4 : 0 ≤ j ∧ j < m
        · rw [if_neg (by omega), if_neg (by omega), if_pos (by omega), if_pos (by omega)]
        · rw [if_neg (by omega), if_neg (by omega), if_neg (by omega), if_neg (by omega)]
    · rw [if_neg (by omega), if_neg (by omega), if_neg (by omega), if_neg (by omega)]
  · by_cases h1b : t = 2
    · subst h1b
      by_cases h2 : i = r
      · subst h2
        by_cases h3 : j = m
        · subst h3; rw [if_pos (by omega), if_pos (by omega)]
        · by_cases h4 : 0 ≤ j ∧ j < m
          · rw [if_neg (by omega), if_neg (by omega), if_pos (by omega), if_pos (by omega)]
          · rw [if_neg (by omega), if_neg (by omega), if_neg (by omega), if_neg (by omega)]
      · rw [if_neg (by omega), if_neg (by omega), if_neg (by omega), if_neg (by omega)]
    · rw [if_neg (by omega), if_neg (by omega), if_neg (by omega), if_neg (by omega)]
-- rows of players: 16 members, 17 size
def shR (σ : St) (w m : Int) : St := fun t i j => if t = 16 ∧ i = w ∧ m < j ∧ j ≤ σ 17 w 0 then σ 16 w (j - 1) else σ t i j
def aFirst (σ : St) (w p : Int) : St := ups (ups (shR σ w 0) 16 w 0 p) 17 w 0 (σ 17 w 0 + 1)
def aLast (σ : St) (w p : Int) : St := ups (ups σ 16 w (σ 17 w 0) p) 17 w 0 (σ 17 w 0 + 1)
theorem shR_0 (σ : St) (w : Int) : shR σ w (σ 17 w 0) = σ := by
  funext t i j
  unfold shR
  rw [if_neg (by omega)]
theorem shR_rd (σ : St) (w m : Int) {j : Int} (h : j ≤ m) : shR σ w m 16 w j = σ 16 w j := by
  unfold shR
  rw [if_neg (by omega)]
theorem shR_o (σ : St) (w m : Int) {t : Nat} (h1 : t ≠ 16) (i j : Int) : shR σ w m t i j = σ t i j := by
  unfold shR
  rw [if_neg (by omega)]
theorem shR_s (σ : St) {w m : Int} (h : m ≤ σ 17 w 0) : ups (shR σ w m) 16 w m (σ 16 w (m - 1)) = shR σ w (m - 1) := by
  funext t i j
  simp only [ups, shR]
  by_cases h1 : t = 16
  · subst h1
    by_cases h2 : i = w
    · subst h2
      by_cases h3 : j = m
      · subst h3; rw [if_pos (by omega), if_pos (by omega)]
      · by_cases h4 : m < j ∧ j ≤ σ 17 i 0
        · rw [if_neg (by omega), if_pos (by omega), if_pos (by omega)]
        · rw [if_neg (by omega), if_neg (by omega), if_neg (by omega)]
    · rw [if_neg (by omega), if_neg (by omega), if_neg (by omega)]
  · rw [if_neg (by omega), if_neg (by omega), if_neg (by omega)]
def shL (σ : St) (w j0 m : Int) : St := fun t i j => if t = 16 ∧ i = w ∧ j0 ≤ j ∧ j < m then σ 16 w (j + 1) else σ t i j
def rAt (σ : St) (w j0 : Int) : St := ups (shL σ w j0 (σ 17 w 0 - 1)) 17 w 0 (σ 17 w 0 - 1)
theorem shL_0 (σ : St) (w : Int) {j0 m : Int} (h : m ≤ j0) : shL σ w j0 m = σ := by
  funext t i j
  unfold shL
  rw [if_neg (by omega)]
theorem shL_rd (σ : St) (w j0 : Int) {m j : Int} (h : m ≤ j ∨ j < j0) : shL σ w j0 m 16 w j = σ 16 w j := by
  unfold shL
  rw [if_neg (by omega)]
theorem shL_o (σ : St) (w j0 m : Int) {t : Nat} (h1 : t ≠ 16) (i j : Int) : shL σ w j0 m t i j = σ t i j := by
  unfold shL
  rw [if_neg (by omega)]
theorem shL_s (σ : St) {w j0 m : Int} (h : j0 ≤ m) : ups (shL σ w j0 m) 16 w m (σ 16 w (m + 1)) = shL σ w j0 (m + 1) := by
  funext t i j
  simp only [ups, shL]
  by_cases h1 : t = 16
  · subst h1
    by_cases h2 : i = w
    · subst h2
      by_cases h3 : j = m
      · subst h3; rw [if_pos (by omega), if_pos (by omega)]
      · by_cases h4 : j0 ≤ j ∧ j < m
        · rw [if_neg (by omega), if_pos (by omega), if_pos (by omega)]
        · rw [if_neg (by omega), if_neg (by omega), if_neg (by omega)]
    · rw [if_neg (by omega), if_neg (by omega), if_neg (by omega)]
  · rw [if_neg (by omega), if_neg (by omega), if_neg (by omega)]
theorem ups_id (σ : St) (t : Nat) (i j : Int) {v : Int} (h : v = σ t i j) : ups σ t i j v = σ := by
  subst h
  funext t' i' j'
  unfold ups
  split
  · next h => obtain ⟨rfl, rfl, rfl⟩ := h; rfl
  · rfl
/-- writes of two numbers that lie apart -/
theorem ups_comm (σ : St) {t t' : Nat} (h : t ≠ t') (i j v i' j' v' : Int) : ups (ups σ t i j v) t' i' j' v' = ups (ups σ t' i' j' v') t i j v := by
  funext a b c
  unfold ups
  by_cases h1 : a = t ∧ b = i ∧ c = j
  · rw [if_pos h1, if_neg (by omega), if_pos h1]
  · by_cases h2 : a = t' ∧ b = i' ∧ c = j'
    · rw [if_pos h2, if_neg h1, if_pos h2]
    · rw [if_neg h2, if_neg h1, if_neg h1, if_neg h2]
theorem ups_ups (σ : St) (t : Nat) (i j v v' : Int) : ups (ups σ t i j v) t i j v' = ups σ t i j v' := by
  funext a b c
  unfold ups
  split <;> rfl
end MATH1
end
section
section MATH2
-- the players' piles
abbrev atEnd (σ : St) (p : Int) : Prop := σ 3 (8 + 4 * p + (σ 5 p 0 - 1)) 0 ≤ σ 4 p (σ 5 p 0 - 1)
def pop1 (σ : St) (p : Int) : St := ups (ups σ 5 p 0 (σ 5 p 0 - 1)) 24 p 0 (σ 5 p 0 - 1)
def popN : Nat → St → Int → St
  | 0, σ, _ => σ
  | k + 1, σ, p => if 1 < σ 5 p 0 ∧ atEnd σ p then popN k (pop1 σ p) p else σ
theorem popN_stop (k : Nat) {σ : St} {p : Int} (h : ¬ (1 < σ 5 p 0 ∧ atEnd σ p)) : popN k σ p = σ := by
  cases k with
  | zero => rfl
  | succ k => rw [popN, if_neg h]
theorem popN_go (k : Nat) {σ : St} {p : Int} (h : 1 < σ 5 p 0 ∧ atEnd σ p) : popN (k + 1) σ p = popN k (pop1 σ p) p := by rw [popN, if_pos h]
theorem pop1_h (σ : St) (p : Int) : pop1 σ p 5 p 0 = σ 5 p 0 - 1 := by simp [pop1, ups]
theorem pop1_o (σ : St) (p : Int) {t : Nat} (h1 : t ≠ 5) (h2 : t ≠ 24) (i j : Int) : pop1 σ p t i j = σ t i j := by
  unfold pop1
  rw [ups_t _ h2, ups_t _ h1]
def fPop (σ : St) (p : Int) : St := popN 3 σ p
theorem fCopy_o (σ : St) (r q : Int) {t : Nat} (h1 : t ≠ 1) (h2 : t ≠ 2) (h3 : t ≠ 3) (i j : Int) : fCopy σ r q t i j = σ t i j := by
  unfold fCopy
  rw [cpP_o _ _ _ _ h1 h2, ups_t _ h3]
def fPut (σ : St) (p r : Int) : St := ups (ups (ups (ups (fCopy σ (8 + 4 * p + σ 5 p 0) r) 4 p (σ 5 p 0) 0) 7 p (σ 5 p 0) r) 5 p 0 (σ 5 p 0 + 1)) 24 p 0 (σ 5 p 0 + 1)
def fPutG (σ : St) (p r : Int) : St := if σ 5 p 0 < 4 then fPut σ p r else σ
def fBegP (σ : St) (p r : Int) : St := fPut (ups σ 5 p 0 0) p r
def fBegin (σ : St) (p r : Int) : St := fBegP (ups (ups (ups (ups (ups (ups σ 6 p 0 1) 7 p 0 r) 9 p 0 0) 10 p 0 0) 11 p 0 (-1)) 25 p 0 (-1)) p r
def fSee (σ : St) (v n : Int) : St := ups (ups σ 19 v n (σ 19 v n + 1)) 21 v n 0
theorem put_end {Dg : va_G} {cA : Nat → ClassId} {ad : Nat → Int → Nat} {H : Heap} {σ τ : St} {p r : Int} (hW : WP Dg ccnt ad (cE cA ad τ) H) (hτ : τ = ups (ups (fCopy σ (8 + 4 * p + σ 5 p 0) r) 4 p (σ 5 p 0) 0) 5 p 0 (σ 5 p 0 + 1)) (h0 : σ 5 p 0 = 0 → σ 7 p 0 = r) : WP Dg ccnt ad (cE cA ad (fPut σ p r)) H := by
  subst hτ
  unfold fPut
  rw [ups_comm _ (show (7 : Nat) ≠ 5 by decide)]
  refine gh (fun _ _ => rfl) ?_
  by_cases h : σ 5 p 0 = 0
  · rw [ups_id]
    · exact hW
    · rw [ups_t _ (by decide), ups_t _ (by decide), fCopy_o _ _ _ (by decide) (by decide) (by decide), h]
      exact (h0 h).symm
  · exact gh7 h hW
theorem cpP_ups (σ : St) (i j v r q m : Int) {u : Nat} (h1 : u ≠ 1) (h2 : u ≠ 2) : cpP (ups σ u i j v) r q m = ups (cpP σ r q m) u i j v := by
  funext a b c
  unfold cpP
  by_cases ha : a = u
  · subst ha
    rw [if_neg (by omega)]
    unfold ups
    split
    · rfl
    · exact (if_neg (by omega)).symm
  · rw [ups_t _ ha, ups_t _ ha, ups_t _ ha]
theorem fPut_comm (σ : St) (p r i j v : Int) {u : Nat} (hu : ∀ w, w ∈ [1, 2, 3, 4, 5, 7, 24] → u ≠ w) : fPut (ups σ u i j v) p r = ups (fPut σ p r) u i j v := by
  have h1 := hu 1 (by decide)
  have h2 := hu 2 (by decide)
  have h3 := hu 3 (by decide)
  have h4 := hu 4 (by decide)
  have h5 := hu 5 (by decide)
  have h7 := hu 7 (by decide)
  have h24 := hu 24 (by decide)
  have e : fCopy (ups σ u i j v) (8 + 4 * p + σ 5 p 0) r = ups (fCopy σ (8 + 4 * p + σ 5 p 0) r) u i j v := by
    unfold fCopy
    rw [ups_t _ h3.symm, ups_comm _ h3, cpP_ups _ _ _ _ _ _ _ h1 h2]
  unfold fPut
  rw [ups_t _ h5.symm, e, ups_comm _ h4, ups_comm _ h7, ups_comm _ h5, ups_comm _ h24]
theorem begin_end {Dg : va_G} {cA : Nat → ClassId} {ad : Nat → Int → Nat} {H : Heap} {σ τ : St} {p r : Int} (hW : WP Dg ccnt ad (cE cA ad τ) H) (hτ : τ = fBegP (ups (ups (ups (ups (ups σ 6 p 0 1) 7 p 0 r) 9 p 0 0) 10 p 0 0) 11 p 0 (-1)) p r) : WP Dg ccnt ad (cE cA ad (fBegin σ p r)) H := by
  subst hτ
  unfold fBegin
  unfold fBegP at hW ⊢
  rw [ups_comm _ (show (25 : Nat) ≠ 5 by decide), fPut_comm _ _ _ _ _ _ (by decide)]
  exact gh (fun _ _ => rfl) hW
-- taking one out of a row, as the first object does it
theorem rm_step (σ : St) {w j0 i k : Int} (h : (i ≤ j0 ∧ k = i) ∨ (j0 < i ∧ k = i - 1)) (hne : i ≠ j0) : ups (shL σ w j0 (i - 1)) 16 w k (σ 16 w i) = shL σ w j0 (i + 1 - 1) := by
  rcases h with ⟨h1, rfl⟩ | ⟨h1, rfl⟩
  · rw [shL_0 _ _ (by omega), shL_0 _ _ (by omega)]
    exact ups_id _ _ _ _ rfl
  · have q := shL_s σ (w := w) (j0 := j0) (m := i - 1) (by omega)
    rw [show i - 1 + 1 = i by omega] at q
    rw [q, show i + 1 - 1 = i by omega]
theorem rm_skip (σ : St) (w : Int) {j0 i : Int} (h : i = j0) : shL σ w j0 (i - 1) = shL σ w j0 (i + 1 - 1) := by
  rw [shL_0 _ _ (by omega), shL_0 _ _ (by omega)]
end MATH2
end
section
section MATH3
-- members of a row
def mem (σ : St) (w p : Int) : Prop := ∃ j : Int, 0 ≤ j ∧ j < σ 17 w 0 ∧ σ 16 w j = p
/-- rows as they should be: sizes, members, each once -/
def IvW (σ : St) : Prop := ∀ w : Int, 0 ≤ w → w < 12 → (0 ≤ σ 17 w 0 ∧ σ 17 w 0 ≤ 6) ∧ (∀ j : Int, 0 ≤ j → j < 6 → 0 ≤ σ 16 w j ∧ σ 16 w j ≤ 5) ∧ ∀ j k : Int, 0 ≤ j → j < σ 17 w 0 → 0 ≤ k → k < σ 17 w 0 → σ 16 w j = σ 16 w k → j = k
-- values of the changed rows
theorem aLast_sz (σ : St) (w p : Int) : aLast σ w p 17 w 0 = σ 17 w 0 + 1 := by unfold aLast; rw [ups_eq]
theorem aLast_szo (σ : St) {w w' : Int} (h : w' ≠ w) (p : Int) : aLast σ w p 17 w' 0 = σ 17 w' 0 := by unfold aLast; rw [ups_i _ _ _ h, ups_t _ (by decide)]
theorem aLast_new (σ : St) (w p : Int) : aLast σ w p 16 w (σ 17 w 0) = p := by unfold aLast; rw [ups_t _ (by decide), ups_eq]
theorem aLast_old (σ : St) (w p : Int) {j : Int} (h : j ≠ σ 17 w 0) : aLast σ w p 16 w j = σ 16 w j := by unfold aLast; rw [ups_t _ (by decide), ups_j _ _ _ h]
theorem aLast_row (σ : St) {w w' : Int} (h : w' ≠ w) (p j : Int) : aLast σ w p 16 w' j = σ 16 w' j := by unfold aLast; rw [ups_t _ (by decide), ups_i _ _ _ h]
theorem aLast_o (σ : St) (w p : Int) {t : Nat} (h1 : t ≠ 16) (h2 : t ≠ 17) (i j : Int) : aLast σ w p t i j = σ t i j := by unfold aLast; rw [ups_t _ h2, ups_t _ h1]
theorem aFirst_sz (σ : St) (w p : Int) : aFirst σ w p 17 w 0 = σ 17 w 0 + 1 := by unfold aFirst; rw [ups_eq]
theorem aFirst_szo (σ : St) {w w' : Int} (h : w' ≠ w) (p : Int) : aFirst σ w p 17 w' 0 = σ 17 w' 0 := by unfold aFirst; rw [ups_i _ _ _ h, ups_t _ (by decide), shR_o _ _ _ (by decide)]
theorem aFirst_new (σ : St) (w p : Int) : aFirst σ w p 16 w 0 = p := by unfold aFirst; rw [ups_t _ (by decide), ups_eq]
theorem aFirst_old (σ : St) (w p : Int) {j : Int} (h : 0 < j) (h2 : j ≤ σ 17 w 0) : aFirst σ w p 16 w j = σ 16 w (j - 1) := by
  unfold aFirst
  rw [ups_t _ (by decide), ups_j _ _ _ (by omega)]
  unfold shR
  rw [if_pos (by omega)]
theorem aFirst_far (σ : St) (w p : Int) {j : Int} (h : 0 < j) (h2 : σ 17 w 0 < j) : aFirst σ w p 16 w j = σ 16 w j := by
  unfold aFirst
  rw [ups_t _ (by decide), ups_j _ _ _ (by omega)]
  unfold shR
  rw [if_neg (by omega)]
theorem aFirst_row (σ : St) {w w' : Int} (h : w' ≠ w) (p j : Int) : aFirst σ w p 16 w' j = σ 16 w' j := by
  unfold aFirst
  rw [ups_t _ (by decide), ups_i _ _ _ h]
  unfold shR
  rw [if_neg (by omega)]
theorem aFirst_o (σ : St) (w p : Int) {t : Nat} (h1 : t ≠ 16) (h2 : t ≠ 17) (i j : Int) : aFirst σ w p t i j = σ t i j := by unfold aFirst; rw [ups_t _ h2, ups_t _ h1, shR_o _ _ _ h1]
theorem rAt_sz (σ : St) (w j0 : Int) : rAt σ w j0 17 w 0 = σ 17 w 0 - 1 := by unfold rAt; rw [ups_eq]
theorem rAt_szo (σ : St) {w w' : Int} (h : w' ≠ w) (j0 : Int) : rAt σ w j0 17 w' 0 = σ 17 w' 0 := by unfold rAt; rw [ups_i _ _ _ h, shL_o _ _ _ _ (by decide)]
theorem rAt_lo (σ : St) (w : Int) {j0 j : Int} (h : j < j0) : rAt σ w j0 16 w j = σ 16 w j := by unfold rAt; rw [ups_t _ (by decide), shL_rd _ _ _ (Or.inr h)]
theorem rAt_hi (σ : St) (w : Int) {j0 j : Int} (h : j0 ≤ j) (h2 : j < σ 17 w 0 - 1) : rAt σ w j0 16 w j = σ 16 w (j + 1) := by
  unfold rAt
  rw [ups_t _ (by decide)]
  unfold shL
  rw [if_pos (by omega)]
theorem rAt_far (σ : St) (w : Int) {j0 j : Int} (h : σ 17 w 0 - 1 ≤ j) : rAt σ w j0 16 w j = σ 16 w j := by unfold rAt; rw [ups_t _ (by decide), shL_rd _ _ _ (Or.inl h)]
theorem rAt_row (σ : St) {w w' : Int} (h : w' ≠ w) (j0 j : Int) : rAt σ w j0 16 w' j = σ 16 w' j := by
  unfold rAt
  rw [ups_t _ (by decide)]
  unfold shL
  rw [if_neg (by omega)]
theorem rAt_o (σ : St) (w j0 : Int) {t : Nat} (h1 : t ≠ 16) (h2 : t ≠ 17) (i j : Int) : rAt σ w j0 t i j = σ t i j := by unfold rAt; rw [ups_t _ h2, shL_o _ _ _ _ h1]
-- who is in them
theorem mem_aLast {σ : St} {w p : Int} (h0 : 0 ≤ σ 17 w 0) (w' q : Int) : mem (aLast σ w p) w' q ↔ mem σ w' q ∨ (w' = w ∧ q = p) := by
  by_cases hw : w' = w
  · subst hw
    constructor
    · rintro ⟨j, h1, h2, h3⟩
      rw [aLast_sz] at h2
      by_cases hj : j = σ 17 w' 0
      · subst hj; rw [aLast_new] at h3; exact Or.inr ⟨rfl, h3.symm⟩
      · rw [aLast_old _ _ _ hj] at h3; exact Or.inl ⟨j, h1, by omega, h3⟩
    · rintro (⟨j, h1, h2, h3⟩ | ⟨-, rfl⟩)
      · exact ⟨j, h1, by rw [aLast_sz]; omega, by rw [aLast_old _ _ _ (by omega)]; exact h3⟩
      · exact ⟨σ 17 w' 0, h0, by rw [aLast_sz]; omega, aLast_new _ _ _⟩
  · constructor
    · rintro ⟨j, h1, h2, h3⟩
      rw [aLast_szo _ hw] at h2; rw [aLast_row _ hw] at h3
      exact Or.inl ⟨j, h1, h2, h3⟩
    · rintro (⟨j, h1, h2, h3⟩ | ⟨h, -⟩)
      · exact ⟨j, h1, by rw [aLast_szo _ hw]; exact h2, by rw [aLast_row _ hw]; exact h3⟩
      · exact absurd h hw
theorem mem_aFirst {σ : St} {w p : Int} (h0 : 0 ≤ σ 17 w 0) (w' q : Int) : mem (aFirst σ w p) w' q ↔ mem σ w' q ∨ (w' = w ∧ q = p) := by
  by_cases hw : w' = w
  · subst hw
    constructor
    · rintro ⟨j, h1, h2, h3⟩
      rw [aFirst_sz] at h2
      by_cases hj : j = 0
      · subst hj; rw [aFirst_new] at h3; exact Or.inr ⟨rfl, h3.symm⟩
      · rw [aFirst_old _ _ _ (by omega) (by omega)] at h3; exact Or.inl ⟨j - 1, by omega, by omega, h3⟩
    · rintro (⟨j, h1, h2, h3⟩ | ⟨-, rfl⟩)
      · exact ⟨j + 1, by omega, by rw [aFirst_sz]; omega, by rw [aFirst_old _ _ _ (by omega) (by omega), show j + 1 - 1 = j by omega]; exact h3⟩
      · exact ⟨0, Int.le_refl _, by rw [aFirst_sz]; omega, aFirst_new _ _ _⟩
  · constructor
    · rintro ⟨j, h1, h2, h3⟩
      rw [aFirst_szo _ hw] at h2; rw [aFirst_row _ hw] at h3
      exact Or.inl ⟨j, h1, h2, h3⟩
    · rintro (⟨j, h1, h2, h3⟩ | ⟨h, -⟩)
      · exact ⟨j, h1, by rw [aFirst_szo _ hw]; exact h2, by rw [aFirst_row _ hw]; exact h3⟩
      · exact absurd h hw
theorem mem_rAt {σ : St} {w j0 : Int} (hj : 0 ≤ j0 ∧ j0 < σ 17 w 0) (hd : ∀ j k : Int, 0 ≤ j → j < σ 17 w 0 → 0 ≤ k → k < σ 17 w 0 → σ 16 w j = σ 16 w k → j = k) (w' q : Int) : mem (rAt σ w j0) w' q ↔ mem σ w' q ∧ ¬ (w' = w ∧ q = σ 16 w j0) := by
  by_cases hw : w' = w
  · subst hw
    constructor
    · rintro ⟨j, h1, h2, h3⟩
      rw [rAt_sz] at h2
      by_cases hc : j < j0
      · rw [rAt_lo _ _ hc] at h3
        exact ⟨⟨j, h1, by omega, h3⟩, fun z => by have := hd j j0 h1 (by omega) hj.1 hj.2 (h3.trans z.2); omega⟩
      · rw [rAt_hi _ _ (by omega) h2] at h3
        exact ⟨⟨j + 1, by omega, by omega, h3⟩, fun z => by have := hd (j + 1) j0 (by omega) (by omega) hj.1 hj.2 (h3.trans z.2); omega⟩
    · rintro ⟨⟨j, h1, h2, h3⟩, hn⟩
      by_cases hc : j < j0
      · exact ⟨j, h1, by rw [rAt_sz]; omega, by rw [rAt_lo _ _ hc]; exact h3⟩
      · by_cases he : j = j0
        · subst he; exact absurd ⟨rfl, h3.symm⟩ hn
        · exact ⟨j - 1, by omega, by rw [rAt_sz]; omega, by rw [rAt_hi _ _ (by omega) (by omega), show j - 1 + 1 = j by omega]; exact h3⟩
  · constructor
    · rintro ⟨j, h1, h2, h3⟩
      rw [rAt_szo _ hw] at h2; rw [rAt_row _ hw] at h3
      exact ⟨⟨j, h1, h2, h3⟩, fun z => hw z.1⟩
    · rintro ⟨⟨j, h1, h2, h3⟩, -⟩
      exact ⟨j, h1, by rw [rAt_szo _ hw]; exact h2, by rw [rAt_row _ hw]; exact h3⟩
-- rows stay as they should be
theorem IvW_aLast {σ : St} (h : IvW σ) {w p : Int} (hp : 0 ≤ p ∧ p ≤ 5) (hs : σ 17 w 0 < 6) (hn : ¬ mem σ w p) : IvW (aLast σ w p) := by
  intro w' h0 h1
  obtain ⟨a1, a2, a3⟩ := h w' h0 h1
  by_cases hw : w' = w
  · subst hw
    rw [aLast_sz]
    refine ⟨by omega, fun j b1 b2 => ?_, fun j k b1 b2 b3 b4 he => ?_⟩
    · by_cases hj : j = σ 17 w' 0
      · subst hj; rw [aLast_new]; exact hp
      · rw [aLast_old _ _ _ hj]; exact a2 j b1 b2
    · by_cases hj : j = σ 17 w' 0
      · by_cases hk : k = σ 17 w' 0
        · omega
        · rw [hj, aLast_new, aLast_old _ _ _ hk] at he
          exact absurd ⟨k, b3, by omega, he.symm⟩ hn
      · by_cases hk : k = σ 17 w' 0
        · rw [hk, aLast_new, aLast_old _ _ _ hj] at he
          exact absurd ⟨j, b1, by omega, he⟩ hn
        · rw [aLast_old _ _ _ hj, aLast_old _ _ _ hk] at he
          exact a3 j k b1 (by omega) b3 (by omega) he
  · rw [aLast_szo _ hw]
    refine ⟨a1, fun j b1 b2 => by rw [aLast_row _ hw]; exact a2 j b1 b2, fun j k b1 b2 b3 b4 he => ?_⟩
    rw [aLast_row _ hw, aLast_row _ hw] at he
    exact a3 j k b1 b2 b3 b4 he
theorem IvW_aFirst {σ : St} (h : IvW σ) {w p : Int} (hp : 0 ≤ p ∧ p ≤ 5) (hs : σ 17 w 0 < 6) (hn : ¬ mem σ w p) : IvW (aFirst σ w p) := by
  intro w' h0 h1
  obtain ⟨a1, a2, a3⟩ := h w' h0 h1
  by_cases hw : w' = w
  · subst hw
    rw [aFirst_sz]
    refine ⟨by omega, fun j b1 b2 => ?_, fun j k b1 b2 b3 b4 he => ?_⟩
    · by_cases hj : j = 0
      · subst hj; rw [aFirst_new]; exact hp
      · by_cases hj2 : j ≤ σ 17 w' 0
        · rw [aFirst_old _ _ _ (by omega) hj2]; exact a2 (j - 1) (by omega) (by omega)
        · rw [aFirst_far _ _ _ (by omega) (by omega)]; exact a2 j b1 b2
    · by_cases hj : j = 0
      · by_cases hk : k = 0
        · omega
        · rw [hj, aFirst_new, aFirst_old _ _ _ (by omega) (by omega)] at he
          exact absurd ⟨k - 1, by omega, by omega, he.symm⟩ hn
      · by_cases hk : k = 0
        · rw [hk, aFirst_new, aFirst_old _ _ _ (by omega) (by omega)] at he
          exact absurd ⟨j - 1, by omega, by omega, he⟩ hn
        · rw [aFirst_old _ _ _ (by omega) (by omega), aFirst_old _ _ _ (by omega) (by omega)] at he
          have := a3 (j - 1) (k - 1) (by omega) (by omega) (by omega) (by omega) he
          omega
  · rw [aFirst_szo _ hw]
    refine ⟨a1, fun j b1 b2 => by rw [aFirst_row _ hw]; exact a2 j b1 b2, fun j k b1 b2 b3 b4 he => ?_⟩
    rw [aFirst_row _ hw, aFirst_row _ hw] at he
    exact a3 j k b1 b2 b3 b4 he
theorem IvW_rAt {σ : St} (h : IvW σ) {w j0 : Int} (hj : 0 ≤ j0 ∧ j0 < σ 17 w 0) : IvW (rAt σ w j0) := by
  intro w' h0 h1
  obtain ⟨a1, a2, a3⟩ := h w' h0 h1
  by_cases hw : w' = w
  · subst hw
    rw [rAt_sz]
    have val : ∀ j : Int, 0 ≤ j → j < σ 17 w' 0 - 1 → ∃ k : Int, rAt σ w' j0 16 w' j = σ 16 w' k ∧ 0 ≤ k ∧ k < σ 17 w' 0 ∧ ((j < j0 ∧ k = j) ∨ (j0 ≤ j ∧ k = j + 1)) := fun j b1 b2 => by
      by_cases hc : j < j0
      · exact ⟨j, rAt_lo _ _ hc, b1, by omega, Or.inl ⟨hc, rfl⟩⟩
      · exact ⟨j + 1, rAt_hi _ _ (by omega) b2, by omega, by omega, Or.inr ⟨by omega, rfl⟩⟩
    refine ⟨by omega, fun j b1 b2 => ?_, fun j k b1 b2 b3 b4 he => ?_⟩
    · by_cases hc : j < σ 17 w' 0 - 1
      · obtain ⟨k, e, c1, c2, -⟩ := val j b1 hc
        rw [e]; exact a2 k c1 (by omega)
      · rw [rAt_far _ _ (by omega)]; exact a2 j b1 b2
    · obtain ⟨x, e1, c1, c2, c3⟩ := val j b1 b2
      obtain ⟨y, e2, d1, d2, d3⟩ := val k b3 b4
      rw [e1, e2] at he
      have := a3 x y c1 c2 d1 d2 he
      omega
  · rw [rAt_szo _ hw]
    refine ⟨a1, fun j b1 b2 => by rw [rAt_row _ hw]; exact a2 j b1 b2, fun j k b1 b2 b3 b4 he => ?_⟩
    rw [rAt_row _ hw, rAt_row _ hw] at he
    exact a3 j k b1 b2 b3 b4 he
/-- who is wanting in a row leaves room for one -/
theorem holes : ∀ (m : Nat) (n : Int) (f : Int → Int), 0 ≤ n → (∀ j, 0 ≤ j → j < n → 0 ≤ f j ∧ f j < m) → (∀ j k, 0 ≤ j → j < n → 0 ≤ k → k < n → f j = f k → j = k) → n ≤ m
  | 0, n, f, h0, h1, _ => by
    rcases Int.lt_or_le 0 n with h | h
    · have := h1 0 (Int.le_refl _) h
      omega
    · omega
  | m + 1, n, f, h0, h1, h2 => by
    by_cases hm : ∃ i, 0 ≤ i ∧ i < n ∧ f i = m
    · obtain ⟨i, a1, a2, a3⟩ := hm
      have := holes m (n - 1) (fun j => if j < i then f j else f (j + 1)) (by omega) (fun j b1 b2 => ?_) (fun j k b1 b2 b3 b4 he => ?_)
      · omega
      · show 0 ≤ (if j < i then f j else f (j + 1)) ∧ (if j < i then f j else f (j + 1)) < m
        split
        · have q := h1 j b1 (by omega)
          have : f j ≠ m := fun z => by have := h2 j i b1 (by omega) a1 a2 (z.trans a3.symm); omega
          omega
        · have q := h1 (j + 1) (by omega) (by omega)
          have : f (j + 1) ≠ m := fun z => by have := h2 (j + 1) i (by omega) (by omega) a1 a2 (z.trans a3.symm); omega
          omega
      · have he : (if j < i then f j else f (j + 1)) = (if k < i then f k else f (k + 1)) := he
        split at he <;> split at he
        · exact h2 j k b1 (by omega) b3 (by omega) he
        · have := h2 j (k + 1) b1 (by omega) (by omega) (by omega) he; omega
        · have := h2 (j + 1) k (by omega) (by omega) b3 (by omega) he; omega
        · have := h2 (j + 1) (k + 1) (by omega) (by omega) (by omega) (by omega) he; omega
    · have := holes m n f h0 (fun j b1 b2 => by
        have q := h1 j b1 b2
        have : f j ≠ m := fun z => hm ⟨j, b1, b2, z⟩
        omega) h2
      omega
theorem room {σ : St} (h : IvW σ) {w p : Int} (hw : 0 ≤ w ∧ w < 12) (hp : 0 ≤ p ∧ p ≤ 5) (hn : ¬ mem σ w p) : σ 17 w 0 < 6 := by
  obtain ⟨a1, a2, a3⟩ := h w hw.1 hw.2
  have := holes 5 (σ 17 w 0) (fun j => if σ 16 w j < p then σ 16 w j else σ 16 w j - 1) a1.1 (fun j b1 b2 => ?_) (fun j k b1 b2 b3 b4 he => ?_)
  · omega
  · have q := a2 j b1 (by omega)
    have : σ 16 w j ≠ p := fun z => hn ⟨j, b1, b2, z⟩
    show 0 ≤ (if σ 16 w j < p then σ 16 w j else σ 16 w j - 1) ∧ (if σ 16 w j < p then σ 16 w j else σ 16 w j - 1) < 5
    split <;> omega
  · have e1 : σ 16 w j ≠ p := fun z => hn ⟨j, b1, b2, z⟩
    have e2 : σ 16 w k ≠ p := fun z => hn ⟨k, b3, b4, z⟩
    have he : (if σ 16 w j < p then σ 16 w j else σ 16 w j - 1) = (if σ 16 w k < p then σ 16 w k else σ 16 w k - 1) := he
    exact a3 j k b1 b2 b3 b4 (by split at he <;> split at he <;> omega)
-- the place of one in a row
def idxN (f : Int → Int) (p : Int) : Nat → Int
  | 0 => 0
  | n + 1 => if idxN f p n < n then idxN f p n else if f n = p then n else n + 1
def idx (σ : St) (w p : Int) : Int := idxN (σ 16 w) p (σ 17 w 0).toNat
theorem idxN_spec (f : Int → Int) (p : Int) : ∀ n : Nat, 0 ≤ idxN f p n ∧ idxN f p n ≤ n ∧ (idxN f p n < n → f (idxN f p n) = p) ∧ ∀ j : Int, 0 ≤ j → j < idxN f p n → f j ≠ p
  | 0 => ⟨Int.le_refl _, Int.le_refl _, fun h => absurd h (by show ¬ ((0 : Int) < ((0 : Nat) : Int)); omega), fun j h1 h2 => by have h2 : j < 0 := h2; omega⟩
  | n + 1 => by
    obtain ⟨a1, a2, a3, a4⟩ := idxN_spec f p n
    rw [idxN]
    by_cases h : idxN f p n < n
    · rw [if_pos h]
      exact ⟨a1, by omega, fun _ => a3 h, a4⟩
    · rw [if_neg h]
      by_cases h2 : f n = p
      · rw [if_pos h2]
        exact ⟨by omega, by omega, fun _ => h2, fun j b1 b2 => a4 j b1 (by omega)⟩
      · rw [if_neg h2]
        refine ⟨by omega, by omega, fun z => absurd z (by omega), fun j b1 b2 => ?_⟩
        by_cases hj : j = n
        · subst hj; exact h2
        · exact a4 j b1 (by omega)
theorem idx_spec {σ : St} {w p : Int} (h : mem σ w p) : 0 ≤ idx σ w p ∧ idx σ w p < σ 17 w 0 ∧ σ 16 w (idx σ w p) = p ∧ ∀ j : Int, 0 ≤ j → j < idx σ w p → σ 16 w j ≠ p := by
  obtain ⟨a1, a2, a3, a4⟩ := idxN_spec (σ 16 w) p (σ 17 w 0).toNat
  obtain ⟨j, b1, b2, b3⟩ := h
  have hlt : idxN (σ 16 w) p (σ 17 w 0).toNat < ((σ 17 w 0).toNat : Nat) := by
    rcases Int.lt_or_le (idxN (σ 16 w) p (σ 17 w 0).toNat) ((σ 17 w 0).toNat : Nat) with q | q
    · exact q
    · exact absurd b3 (a4 j b1 (by omega))
  exact ⟨a1, by unfold idx; omega, a3 hlt, a4⟩
end MATH3
end
