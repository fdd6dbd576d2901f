section
-- ===== PART A: goes FIRST, ahead of the names: the tables' words, and 'selects' of the private methods out of them =====
/-- a private method of a class that the tables say can be made, by its rows of tables_1 -/
def lw_okq (q : MethodName × Nat) : Prop := (q.1.cls ≠ "java/lang/invoke/MethodHandle" ∧ q.1.cls ≠ "java/lang/invoke/VarHandle") ∧ Cond.instantiable q.1.cls q.2 ∈ tables_1 ∧ Cond.privateMethod q.1 ∈ tables_1 ∧ Cond.instanceMethod q.1 ∈ tables_1
theorem lw_p0 : lw_okq (⟨"LogFlume$Told", "tellFigures", "(LLogFlume$Text;II[II)I"⟩, 6) := ⟨⟨by decide +kernel, by decide +kernel⟩, List.mem_of_getElem? (i := 24) (by decide +kernel), List.mem_of_getElem? (i := 189) (by decide +kernel), List.mem_of_getElem? (i := 190) (by decide +kernel)⟩
theorem lw_p1 : lw_okq (⟨"LogFlume", "tellAgain", "(I)V"⟩, 17) := ⟨⟨by decide +kernel, by decide +kernel⟩, List.mem_of_getElem? (i := 14) (by decide +kernel), List.mem_of_getElem? (i := 256) (by decide +kernel), List.mem_of_getElem? (i := 257) (by decide +kernel)⟩
theorem lw_p2 : lw_okq (⟨"LogFlume", "unsettle", "()V"⟩, 17) := ⟨⟨by decide +kernel, by decide +kernel⟩, List.mem_of_getElem? (i := 14) (by decide +kernel), List.mem_of_getElem? (i := 274) (by decide +kernel), List.mem_of_getElem? (i := 275) (by decide +kernel)⟩
theorem lw_p3 : lw_okq (⟨"LogFlume", "isLog", "(I)Z"⟩, 17) := ⟨⟨by decide +kernel, by decide +kernel⟩, List.mem_of_getElem? (i := 14) (by decide +kernel), List.mem_of_getElem? (i := 298) (by decide +kernel), List.mem_of_getElem? (i := 299) (by decide +kernel)⟩
theorem lw_p4 : lw_okq (⟨"LogFlume", "found", "(I)I"⟩, 17) := ⟨⟨by decide +kernel, by decide +kernel⟩, List.mem_of_getElem? (i := 14) (by decide +kernel), List.mem_of_getElem? (i := 326) (by decide +kernel), List.mem_of_getElem? (i := 327) (by decide +kernel)⟩
theorem lw_p5 : lw_okq (⟨"LogFlume", "settle", "()V"⟩, 17) := ⟨⟨by decide +kernel, by decide +kernel⟩, List.mem_of_getElem? (i := 14) (by decide +kernel), List.mem_of_getElem? (i := 334) (by decide +kernel), List.mem_of_getElem? (i := 335) (by decide +kernel)⟩
theorem lw_p6 : lw_okq (⟨"LogFlume$Drive", "beginMinute", "(LLogFlume$Told;I)V"⟩, 6) := ⟨⟨by decide +kernel, by decide +kernel⟩, List.mem_of_getElem? (i := 121) (by decide +kernel), List.mem_of_getElem? (i := 362) (by decide +kernel), List.mem_of_getElem? (i := 363) (by decide +kernel)⟩
theorem lw_p7 : lw_okq (⟨"LogFlume$Drive", "move", "(LLogFlume$Told;LLogFlume$Water;III)I"⟩, 6) := ⟨⟨by decide +kernel, by decide +kernel⟩, List.mem_of_getElem? (i := 121) (by decide +kernel), List.mem_of_getElem? (i := 367) (by decide +kernel), List.mem_of_getElem? (i := 368) (by decide +kernel)⟩
theorem lw_p8 : lw_okq (⟨"LogFlume$Drive", "putIn", "(LLogFlume$Told;I)V"⟩, 6) := ⟨⟨by decide +kernel, by decide +kernel⟩, List.mem_of_getElem? (i := 121) (by decide +kernel), List.mem_of_getElem? (i := 372) (by decide +kernel), List.mem_of_getElem? (i := 373) (by decide +kernel)⟩
theorem lw_p9 : lw_okq (⟨"LogFlume", "searchSend", "(I)V"⟩, 17) := ⟨⟨by decide +kernel, by decide +kernel⟩, List.mem_of_getElem? (i := 14) (by decide +kernel), List.mem_of_getElem? (i := 434) (by decide +kernel), List.mem_of_getElem? (i := 435) (by decide +kernel)⟩
theorem lw_p10 : lw_okq (⟨"LogFlume", "startSearch", "()V"⟩, 17) := ⟨⟨by decide +kernel, by decide +kernel⟩, List.mem_of_getElem? (i := 14) (by decide +kernel), List.mem_of_getElem? (i := 438) (by decide +kernel), List.mem_of_getElem? (i := 439) (by decide +kernel)⟩
theorem lw_p11 : lw_okq (⟨"LogFlume", "weigh", "(I)V"⟩, 17) := ⟨⟨by decide +kernel, by decide +kernel⟩, List.mem_of_getElem? (i := 14) (by decide +kernel), List.mem_of_getElem? (i := 442) (by decide +kernel), List.mem_of_getElem? (i := 443) (by decide +kernel)⟩
theorem lw_p12 : lw_okq (⟨"LogFlume", "searchSteep", "()V"⟩, 17) := ⟨⟨by decide +kernel, by decide +kernel⟩, List.mem_of_getElem? (i := 14) (by decide +kernel), List.mem_of_getElem? (i := 456) (by decide +kernel), List.mem_of_getElem? (i := 457) (by decide +kernel)⟩
theorem lw_p13 : lw_okq (⟨"LogFlume", "searchFill", "()V"⟩, 17) := ⟨⟨by decide +kernel, by decide +kernel⟩, List.mem_of_getElem? (i := 14) (by decide +kernel), List.mem_of_getElem? (i := 465) (by decide +kernel), List.mem_of_getElem? (i := 466) (by decide +kernel)⟩
theorem lw_p14 : lw_okq (⟨"LogFlume", "sparedEvents", "()I"⟩, 17) := ⟨⟨by decide +kernel, by decide +kernel⟩, List.mem_of_getElem? (i := 14) (by decide +kernel), List.mem_of_getElem? (i := 473) (by decide +kernel), List.mem_of_getElem? (i := 474) (by decide +kernel)⟩
theorem lw_p15 : lw_okq (⟨"LogFlume", "outcome", "(I)I"⟩, 17) := ⟨⟨by decide +kernel, by decide +kernel⟩, List.mem_of_getElem? (i := 14) (by decide +kernel), List.mem_of_getElem? (i := 477) (by decide +kernel), List.mem_of_getElem? (i := 478) (by decide +kernel)⟩
def lw_privs_1 : List (MethodName × Nat) := [(⟨"LogFlume$Told", "tellFigures", "(LLogFlume$Text;II[II)I"⟩, 6), (⟨"LogFlume", "tellAgain", "(I)V"⟩, 17), (⟨"LogFlume", "unsettle", "()V"⟩, 17), (⟨"LogFlume", "isLog", "(I)Z"⟩, 17), (⟨"LogFlume", "found", "(I)I"⟩, 17), (⟨"LogFlume", "settle", "()V"⟩, 17), (⟨"LogFlume$Drive", "beginMinute", "(LLogFlume$Told;I)V"⟩, 6), (⟨"LogFlume$Drive", "move", "(LLogFlume$Told;LLogFlume$Water;III)I"⟩, 6), (⟨"LogFlume$Drive", "putIn", "(LLogFlume$Told;I)V"⟩, 6), (⟨"LogFlume", "searchSend", "(I)V"⟩, 17), (⟨"LogFlume", "startSearch", "()V"⟩, 17), (⟨"LogFlume", "weigh", "(I)V"⟩, 17), (⟨"LogFlume", "searchSteep", "()V"⟩, 17), (⟨"LogFlume", "searchFill", "()V"⟩, 17), (⟨"LogFlume", "sparedEvents", "()I"⟩, 17), (⟨"LogFlume", "outcome", "(I)I"⟩, 17)]
theorem lw_r1 : ∀ q ∈ lw_privs_1, lw_okq q := List.forall_mem_cons.mpr ⟨lw_p0, List.forall_mem_cons.mpr ⟨lw_p1, List.forall_mem_cons.mpr ⟨lw_p2, List.forall_mem_cons.mpr ⟨lw_p3, List.forall_mem_cons.mpr ⟨lw_p4, List.forall_mem_cons.mpr ⟨lw_p5, List.forall_mem_cons.mpr ⟨lw_p6, List.forall_mem_cons.mpr ⟨lw_p7, List.forall_mem_cons.mpr ⟨lw_p8, List.forall_mem_cons.mpr ⟨lw_p9, List.forall_mem_cons.mpr ⟨lw_p10, List.forall_mem_cons.mpr ⟨lw_p11, List.forall_mem_cons.mpr ⟨lw_p12, List.forall_mem_cons.mpr ⟨lw_p13, List.forall_mem_cons.mpr ⟨lw_p14, List.forall_mem_cons.mpr ⟨lw_p15, fun _ h => absurd h List.not_mem_nil⟩⟩⟩⟩⟩⟩⟩⟩⟩⟩⟩⟩⟩⟩⟩⟩
theorem lw_p16 : lw_okq (⟨"LogFlume", "traceDraughts", "(I)I"⟩, 17) := ⟨⟨by decide +kernel, by decide +kernel⟩, List.mem_of_getElem? (i := 14) (by decide +kernel), List.mem_of_getElem? (i := 510) (by decide +kernel), List.mem_of_getElem? (i := 511) (by decide +kernel)⟩
theorem lw_p17 : lw_okq (⟨"LogFlume", "mostAlike", "(II)I"⟩, 17) := ⟨⟨by decide +kernel, by decide +kernel⟩, List.mem_of_getElem? (i := 14) (by decide +kernel), List.mem_of_getElem? (i := 526) (by decide +kernel), List.mem_of_getElem? (i := 527) (by decide +kernel)⟩
theorem lw_p18 : lw_okq (⟨"LogFlume", "sixteenthsOut", "(II)J"⟩, 17) := ⟨⟨by decide +kernel, by decide +kernel⟩, List.mem_of_getElem? (i := 14) (by decide +kernel), List.mem_of_getElem? (i := 536) (by decide +kernel), List.mem_of_getElem? (i := 537) (by decide +kernel)⟩
theorem lw_p19 : lw_okq (⟨"LogFlume", "mixSpan", "(JI)J"⟩, 17) := ⟨⟨by decide +kernel, by decide +kernel⟩, List.mem_of_getElem? (i := 14) (by decide +kernel), List.mem_of_getElem? (i := 610) (by decide +kernel), List.mem_of_getElem? (i := 611) (by decide +kernel)⟩
theorem lw_p20 : lw_okq (⟨"LogFlume", "mixLogMinutes", "(JI)J"⟩, 17) := ⟨⟨by decide +kernel, by decide +kernel⟩, List.mem_of_getElem? (i := 14) (by decide +kernel), List.mem_of_getElem? (i := 617) (by decide +kernel), List.mem_of_getElem? (i := 618) (by decide +kernel)⟩
theorem lw_p21 : lw_okq (⟨"LogFlume", "mixLogPlans", "(JI)J"⟩, 17) := ⟨⟨by decide +kernel, by decide +kernel⟩, List.mem_of_getElem? (i := 14) (by decide +kernel), List.mem_of_getElem? (i := 626) (by decide +kernel), List.mem_of_getElem? (i := 627) (by decide +kernel)⟩
theorem lw_p22 : lw_okq (⟨"LogFlume", "mixWhole", "(J)J"⟩, 17) := ⟨⟨by decide +kernel, by decide +kernel⟩, List.mem_of_getElem? (i := 14) (by decide +kernel), List.mem_of_getElem? (i := 634) (by decide +kernel), List.mem_of_getElem? (i := 635) (by decide +kernel)⟩
theorem lw_p23 : lw_okq (⟨"LogFlumeModel", "finds", "(I)I"⟩, 27) := ⟨⟨by decide +kernel, by decide +kernel⟩, List.mem_of_getElem? (i := 646) (by decide +kernel), List.mem_of_getElem? (i := 746) (by decide +kernel), List.mem_of_getElem? (i := 747) (by decide +kernel)⟩
theorem lw_p24 : lw_okq (⟨"LogFlumeModel", "lacks", "(III)I"⟩, 27) := ⟨⟨by decide +kernel, by decide +kernel⟩, List.mem_of_getElem? (i := 646) (by decide +kernel), List.mem_of_getElem? (i := 758) (by decide +kernel), List.mem_of_getElem? (i := 759) (by decide +kernel)⟩
theorem lw_p25 : lw_okq (⟨"LogFlumeModel", "readsText", "(I)I"⟩, 27) := ⟨⟨by decide +kernel, by decide +kernel⟩, List.mem_of_getElem? (i := 646) (by decide +kernel), List.mem_of_getElem? (i := 794) (by decide +kernel), List.mem_of_getElem? (i := 795) (by decide +kernel)⟩
theorem lw_p26 : lw_okq (⟨"LogFlumeModel", "readsSlopes", "()I"⟩, 27) := ⟨⟨by decide +kernel, by decide +kernel⟩, List.mem_of_getElem? (i := 646) (by decide +kernel), List.mem_of_getElem? (i := 798) (by decide +kernel), List.mem_of_getElem? (i := 799) (by decide +kernel)⟩
theorem lw_p27 : lw_okq (⟨"LogFlumeModel", "gentle", "()V"⟩, 27) := ⟨⟨by decide +kernel, by decide +kernel⟩, List.mem_of_getElem? (i := 646) (by decide +kernel), List.mem_of_getElem? (i := 802) (by decide +kernel), List.mem_of_getElem? (i := 803) (by decide +kernel)⟩
theorem lw_p28 : lw_okq (⟨"LogFlumeModel", "readsFeeders", "()I"⟩, 27) := ⟨⟨by decide +kernel, by decide +kernel⟩, List.mem_of_getElem? (i := 646) (by decide +kernel), List.mem_of_getElem? (i := 809) (by decide +kernel), List.mem_of_getElem? (i := 810) (by decide +kernel)⟩
theorem lw_p29 : lw_okq (⟨"LogFlumeModel", "dries", "()V"⟩, 27) := ⟨⟨by decide +kernel, by decide +kernel⟩, List.mem_of_getElem? (i := 646) (by decide +kernel), List.mem_of_getElem? (i := 813) (by decide +kernel), List.mem_of_getElem? (i := 814) (by decide +kernel)⟩
theorem lw_p30 : lw_okq (⟨"LogFlumeModel", "readsLogs", "()I"⟩, 27) := ⟨⟨by decide +kernel, by decide +kernel⟩, List.mem_of_getElem? (i := 646) (by decide +kernel), List.mem_of_getElem? (i := 817) (by decide +kernel), List.mem_of_getElem? (i := 818) (by decide +kernel)⟩
theorem lw_p31 : lw_okq (⟨"LogFlumeModel", "spanBy", "(II)I"⟩, 27) := ⟨⟨by decide +kernel, by decide +kernel⟩, List.mem_of_getElem? (i := 646) (by decide +kernel), List.mem_of_getElem? (i := 837) (by decide +kernel), List.mem_of_getElem? (i := 838) (by decide +kernel)⟩
def lw_privs_2 : List (MethodName × Nat) := [(⟨"LogFlume", "traceDraughts", "(I)I"⟩, 17), (⟨"LogFlume", "mostAlike", "(II)I"⟩, 17), (⟨"LogFlume", "sixteenthsOut", "(II)J"⟩, 17), (⟨"LogFlume", "mixSpan", "(JI)J"⟩, 17), (⟨"LogFlume", "mixLogMinutes", "(JI)J"⟩, 17), (⟨"LogFlume", "mixLogPlans", "(JI)J"⟩, 17), (⟨"LogFlume", "mixWhole", "(J)J"⟩, 17), (⟨"LogFlumeModel", "finds", "(I)I"⟩, 27), (⟨"LogFlumeModel", "lacks", "(III)I"⟩, 27), (⟨"LogFlumeModel", "readsText", "(I)I"⟩, 27), (⟨"LogFlumeModel", "readsSlopes", "()I"⟩, 27), (⟨"LogFlumeModel", "gentle", "()V"⟩, 27), (⟨"LogFlumeModel", "readsFeeders", "()I"⟩, 27), (⟨"LogFlumeModel", "dries", "()V"⟩, 27), (⟨"LogFlumeModel", "readsLogs", "()I"⟩, 27), (⟨"LogFlumeModel", "spanBy", "(II)I"⟩, 27)]
theorem lw_r2 : ∀ q ∈ lw_privs_2, lw_okq q := List.forall_mem_cons.mpr ⟨lw_p16, List.forall_mem_cons.mpr ⟨lw_p17, List.forall_mem_cons.mpr ⟨lw_p18, List.forall_mem_cons.mpr ⟨lw_p19, List.forall_mem_cons.mpr ⟨lw_p20, List.forall_mem_cons.mpr ⟨lw_p21, List.forall_mem_cons.mpr ⟨lw_p22, List.forall_mem_cons.mpr ⟨lw_p23, List.forall_mem_cons.mpr ⟨lw_p24, List.forall_mem_cons.mpr ⟨lw_p25, List.forall_mem_cons.mpr ⟨lw_p26, List.forall_mem_cons.mpr ⟨lw_p27, List.forall_mem_cons.mpr ⟨lw_p28, List.forall_mem_cons.mpr ⟨lw_p29, List.forall_mem_cons.mpr ⟨lw_p30, List.forall_mem_cons.mpr ⟨lw_p31, fun _ h => absurd h List.not_mem_nil⟩⟩⟩⟩⟩⟩⟩⟩⟩⟩⟩⟩⟩⟩⟩⟩
theorem lw_p32 : lw_okq (⟨"LogFlumeModel", "isLog", "(I)Z"⟩, 27) := ⟨⟨by decide +kernel, by decide +kernel⟩, List.mem_of_getElem? (i := 646) (by decide +kernel), List.mem_of_getElem? (i := 845) (by decide +kernel), List.mem_of_getElem? (i := 846) (by decide +kernel)⟩
theorem lw_p33 : lw_okq (⟨"LogFlumeModel", "find", "()V"⟩, 27) := ⟨⟨by decide +kernel, by decide +kernel⟩, List.mem_of_getElem? (i := 646) (by decide +kernel), List.mem_of_getElem? (i := 870) (by decide +kernel), List.mem_of_getElem? (i := 871) (by decide +kernel)⟩
theorem lw_p34 : lw_okq (⟨"LogFlumeModel", "lives", "()V"⟩, 27) := ⟨⟨by decide +kernel, by decide +kernel⟩, List.mem_of_getElem? (i := 646) (by decide +kernel), List.mem_of_getElem? (i := 874) (by decide +kernel), List.mem_of_getElem? (i := 875) (by decide +kernel)⟩
theorem lw_p35 : lw_okq (⟨"LogFlumeModel", "passes", "(I)V"⟩, 27) := ⟨⟨by decide +kernel, by decide +kernel⟩, List.mem_of_getElem? (i := 646) (by decide +kernel), List.mem_of_getElem? (i := 878) (by decide +kernel), List.mem_of_getElem? (i := 879) (by decide +kernel)⟩
theorem lw_p36 : lw_okq (⟨"LogFlumeModel", "flows", "(I)V"⟩, 27) := ⟨⟨by decide +kernel, by decide +kernel⟩, List.mem_of_getElem? (i := 646) (by decide +kernel), List.mem_of_getElem? (i := 882) (by decide +kernel), List.mem_of_getElem? (i := 883) (by decide +kernel)⟩
theorem lw_p37 : lw_okq (⟨"LogFlumeModel", "told", "(II)I"⟩, 27) := ⟨⟨by decide +kernel, by decide +kernel⟩, List.mem_of_getElem? (i := 646) (by decide +kernel), List.mem_of_getElem? (i := 886) (by decide +kernel), List.mem_of_getElem? (i := 887) (by decide +kernel)⟩
theorem lw_p38 : lw_okq (⟨"LogFlumeModel", "logsGo", "(I)V"⟩, 27) := ⟨⟨by decide +kernel, by decide +kernel⟩, List.mem_of_getElem? (i := 646) (by decide +kernel), List.mem_of_getElem? (i := 896) (by decide +kernel), List.mem_of_getElem? (i := 897) (by decide +kernel)⟩
theorem lw_p39 : lw_okq (⟨"LogFlumeModel", "floats", "(IIZ)V"⟩, 27) := ⟨⟨by decide +kernel, by decide +kernel⟩, List.mem_of_getElem? (i := 646) (by decide +kernel), List.mem_of_getElem? (i := 900) (by decide +kernel), List.mem_of_getElem? (i := 901) (by decide +kernel)⟩
theorem lw_p40 : lw_okq (⟨"LogFlumeModel", "whoBut", "(II)I"⟩, 27) := ⟨⟨by decide +kernel, by decide +kernel⟩, List.mem_of_getElem? (i := 646) (by decide +kernel), List.mem_of_getElem? (i := 904) (by decide +kernel), List.mem_of_getElem? (i := 905) (by decide +kernel)⟩
theorem lw_p41 : lw_okq (⟨"LogFlumeModel", "flumeBy", "(III)I"⟩, 27) := ⟨⟨by decide +kernel, by decide +kernel⟩, List.mem_of_getElem? (i := 646) (by decide +kernel), List.mem_of_getElem? (i := 911) (by decide +kernel), List.mem_of_getElem? (i := 912) (by decide +kernel)⟩
theorem lw_p42 : lw_okq (⟨"LogFlumeModel", "whoBy", "(II)I"⟩, 27) := ⟨⟨by decide +kernel, by decide +kernel⟩, List.mem_of_getElem? (i := 646) (by decide +kernel), List.mem_of_getElem? (i := 915) (by decide +kernel), List.mem_of_getElem? (i := 916) (by decide +kernel)⟩
theorem lw_p43 : lw_okq (⟨"LogFlumeModel", "atBy", "(III)I"⟩, 27) := ⟨⟨by decide +kernel, by decide +kernel⟩, List.mem_of_getElem? (i := 646) (by decide +kernel), List.mem_of_getElem? (i := 923) (by decide +kernel), List.mem_of_getElem? (i := 924) (by decide +kernel)⟩
theorem lw_p44 : lw_okq (⟨"LogFlumeModel", "allBy", "(II)I"⟩, 27) := ⟨⟨by decide +kernel, by decide +kernel⟩, List.mem_of_getElem? (i := 646) (by decide +kernel), List.mem_of_getElem? (i := 931) (by decide +kernel), List.mem_of_getElem? (i := 932) (by decide +kernel)⟩
theorem lw_p45 : lw_okq (⟨"LogFlumeModel", "outBy", "(II)I"⟩, 27) := ⟨⟨by decide +kernel, by decide +kernel⟩, List.mem_of_getElem? (i := 646) (by decide +kernel), List.mem_of_getElem? (i := 939) (by decide +kernel), List.mem_of_getElem? (i := 940) (by decide +kernel)⟩
theorem lw_p46 : lw_okq (⟨"LogFlumeModel", "jamNow", "()I"⟩, 27) := ⟨⟨by decide +kernel, by decide +kernel⟩, List.mem_of_getElem? (i := 646) (by decide +kernel), List.mem_of_getElem? (i := 947) (by decide +kernel), List.mem_of_getElem? (i := 948) (by decide +kernel)⟩
theorem lw_p47 : lw_okq (⟨"LogFlumeModel", "leftBy", "(I)I"⟩, 27) := ⟨⟨by decide +kernel, by decide +kernel⟩, List.mem_of_getElem? (i := 646) (by decide +kernel), List.mem_of_getElem? (i := 955) (by decide +kernel), List.mem_of_getElem? (i := 956) (by decide +kernel)⟩
def lw_privs_3 : List (MethodName × Nat) := [(⟨"LogFlumeModel", "isLog", "(I)Z"⟩, 27), (⟨"LogFlumeModel", "find", "()V"⟩, 27), (⟨"LogFlumeModel", "lives", "()V"⟩, 27), (⟨"LogFlumeModel", "passes", "(I)V"⟩, 27), (⟨"LogFlumeModel", "flows", "(I)V"⟩, 27), (⟨"LogFlumeModel", "told", "(II)I"⟩, 27), (⟨"LogFlumeModel", "logsGo", "(I)V"⟩, 27), (⟨"LogFlumeModel", "floats", "(IIZ)V"⟩, 27), (⟨"LogFlumeModel", "whoBut", "(II)I"⟩, 27), (⟨"LogFlumeModel", "flumeBy", "(III)I"⟩, 27), (⟨"LogFlumeModel", "whoBy", "(II)I"⟩, 27), (⟨"LogFlumeModel", "atBy", "(III)I"⟩, 27), (⟨"LogFlumeModel", "allBy", "(II)I"⟩, 27), (⟨"LogFlumeModel", "outBy", "(II)I"⟩, 27), (⟨"LogFlumeModel", "jamNow", "()I"⟩, 27), (⟨"LogFlumeModel", "leftBy", "(I)I"⟩, 27)]
theorem lw_r3 : ∀ q ∈ lw_privs_3, lw_okq q := List.forall_mem_cons.mpr ⟨lw_p32, List.forall_mem_cons.mpr ⟨lw_p33, List.forall_mem_cons.mpr ⟨lw_p34, List.forall_mem_cons.mpr ⟨lw_p35, List.forall_mem_cons.mpr ⟨lw_p36, List.forall_mem_cons.mpr ⟨lw_p37, List.forall_mem_cons.mpr ⟨lw_p38, List.forall_mem_cons.mpr ⟨lw_p39, List.forall_mem_cons.mpr ⟨lw_p40, List.forall_mem_cons.mpr ⟨lw_p41, List.forall_mem_cons.mpr ⟨lw_p42, List.forall_mem_cons.mpr ⟨lw_p43, List.forall_mem_cons.mpr ⟨lw_p44, List.forall_mem_cons.mpr ⟨lw_p45, List.forall_mem_cons.mpr ⟨lw_p46, List.forall_mem_cons.mpr ⟨lw_p47, fun _ h => absurd h List.not_mem_nil⟩⟩⟩⟩⟩⟩⟩⟩⟩⟩⟩⟩⟩⟩⟩⟩
theorem lw_p48 : lw_okq (⟨"LogFlumeModel", "dryNow", "()I"⟩, 27) := ⟨⟨by decide +kernel, by decide +kernel⟩, List.mem_of_getElem? (i := 646) (by decide +kernel), List.mem_of_getElem? (i := 959) (by decide +kernel), List.mem_of_getElem? (i := 960) (by decide +kernel)⟩
theorem lw_p49 : lw_okq (⟨"LogFlumeModel", "lateNow", "()I"⟩, 27) := ⟨⟨by decide +kernel, by decide +kernel⟩, List.mem_of_getElem? (i := 646) (by decide +kernel), List.mem_of_getElem? (i := 966) (by decide +kernel), List.mem_of_getElem? (i := 967) (by decide +kernel)⟩
theorem lw_p50 : lw_okq (⟨"LogFlumeModel", "worstNow", "()I"⟩, 27) := ⟨⟨by decide +kernel, by decide +kernel⟩, List.mem_of_getElem? (i := 646) (by decide +kernel), List.mem_of_getElem? (i := 974) (by decide +kernel), List.mem_of_getElem? (i := 975) (by decide +kernel)⟩
theorem lw_p51 : lw_okq (⟨"LogFlumeModel", "sendOf", "(II)I"⟩, 27) := ⟨⟨by decide +kernel, by decide +kernel⟩, List.mem_of_getElem? (i := 646) (by decide +kernel), List.mem_of_getElem? (i := 982) (by decide +kernel), List.mem_of_getElem? (i := 983) (by decide +kernel)⟩
theorem lw_p52 : lw_okq (⟨"LogFlumeModel", "manyOut", "()I"⟩, 27) := ⟨⟨by decide +kernel, by decide +kernel⟩, List.mem_of_getElem? (i := 646) (by decide +kernel), List.mem_of_getElem? (i := 986) (by decide +kernel), List.mem_of_getElem? (i := 987) (by decide +kernel)⟩
theorem lw_p53 : lw_okq (⟨"LogFlumeModel", "steepBy", "(I)I"⟩, 27) := ⟨⟨by decide +kernel, by decide +kernel⟩, List.mem_of_getElem? (i := 646) (by decide +kernel), List.mem_of_getElem? (i := 994) (by decide +kernel), List.mem_of_getElem? (i := 995) (by decide +kernel)⟩
theorem lw_p54 : lw_okq (⟨"LogFlumeModel", "fillBy", "(I)I"⟩, 27) := ⟨⟨by decide +kernel, by decide +kernel⟩, List.mem_of_getElem? (i := 646) (by decide +kernel), List.mem_of_getElem? (i := 1002) (by decide +kernel), List.mem_of_getElem? (i := 1003) (by decide +kernel)⟩
theorem lw_p55 : lw_okq (⟨"LogFlumeModel", "spareBy", "(I)I"⟩, 27) := ⟨⟨by decide +kernel, by decide +kernel⟩, List.mem_of_getElem? (i := 646) (by decide +kernel), List.mem_of_getElem? (i := 1011) (by decide +kernel), List.mem_of_getElem? (i := 1012) (by decide +kernel)⟩
theorem lw_p56 : lw_okq (⟨"LogFlumeModel", "isSpared", "(I)Z"⟩, 27) := ⟨⟨by decide +kernel, by decide +kernel⟩, List.mem_of_getElem? (i := 646) (by decide +kernel), List.mem_of_getElem? (i := 1015) (by decide +kernel), List.mem_of_getElem? (i := 1016) (by decide +kernel)⟩
theorem lw_p57 : lw_okq (⟨"LogFlumeModel", "neverNow", "()I"⟩, 27) := ⟨⟨by decide +kernel, by decide +kernel⟩, List.mem_of_getElem? (i := 646) (by decide +kernel), List.mem_of_getElem? (i := 1032) (by decide +kernel), List.mem_of_getElem? (i := 1033) (by decide +kernel)⟩
theorem lw_p58 : lw_okq (⟨"LogFlumeModel", "isSeen", "()Z"⟩, 27) := ⟨⟨by decide +kernel, by decide +kernel⟩, List.mem_of_getElem? (i := 646) (by decide +kernel), List.mem_of_getElem? (i := 1036) (by decide +kernel), List.mem_of_getElem? (i := 1037) (by decide +kernel)⟩
theorem lw_p59 : lw_okq (⟨"LogFlumeModel", "draughtsOf", "(I)I"⟩, 27) := ⟨⟨by decide +kernel, by decide +kernel⟩, List.mem_of_getElem? (i := 646) (by decide +kernel), List.mem_of_getElem? (i := 1044) (by decide +kernel), List.mem_of_getElem? (i := 1045) (by decide +kernel)⟩
theorem lw_p60 : lw_okq (⟨"LogFlumeModel", "rowOf", "(I)J"⟩, 27) := ⟨⟨by decide +kernel, by decide +kernel⟩, List.mem_of_getElem? (i := 646) (by decide +kernel), List.mem_of_getElem? (i := 1048) (by decide +kernel), List.mem_of_getElem? (i := 1049) (by decide +kernel)⟩
theorem lw_p61 : lw_okq (⟨"LogFlumeModel", "gradeOf", "(I)I"⟩, 27) := ⟨⟨by decide +kernel, by decide +kernel⟩, List.mem_of_getElem? (i := 646) (by decide +kernel), List.mem_of_getElem? (i := 1057) (by decide +kernel), List.mem_of_getElem? (i := 1058) (by decide +kernel)⟩
theorem lw_p62 : lw_okq (⟨"LogFlumeModel", "askOf", "(I)I"⟩, 27) := ⟨⟨by decide +kernel, by decide +kernel⟩, List.mem_of_getElem? (i := 646) (by decide +kernel), List.mem_of_getElem? (i := 1065) (by decide +kernel), List.mem_of_getElem? (i := 1066) (by decide +kernel)⟩
theorem lw_p63 : lw_okq (⟨"LogFlumeModel", "alike", "(II)I"⟩, 27) := ⟨⟨by decide +kernel, by decide +kernel⟩, List.mem_of_getElem? (i := 646) (by decide +kernel), List.mem_of_getElem? (i := 1069) (by decide +kernel), List.mem_of_getElem? (i := 1070) (by decide +kernel)⟩
def lw_privs_4 : List (MethodName × Nat) := [(⟨"LogFlumeModel", "dryNow", "()I"⟩, 27), (⟨"LogFlumeModel", "lateNow", "()I"⟩, 27), (⟨"LogFlumeModel", "worstNow", "()I"⟩, 27), (⟨"LogFlumeModel", "sendOf", "(II)I"⟩, 27), (⟨"LogFlumeModel", "manyOut", "()I"⟩, 27), (⟨"LogFlumeModel", "steepBy", "(I)I"⟩, 27), (⟨"LogFlumeModel", "fillBy", "(I)I"⟩, 27), (⟨"LogFlumeModel", "spareBy", "(I)I"⟩, 27), (⟨"LogFlumeModel", "isSpared", "(I)Z"⟩, 27), (⟨"LogFlumeModel", "neverNow", "()I"⟩, 27), (⟨"LogFlumeModel", "isSeen", "()Z"⟩, 27), (⟨"LogFlumeModel", "draughtsOf", "(I)I"⟩, 27), (⟨"LogFlumeModel", "rowOf", "(I)J"⟩, 27), (⟨"LogFlumeModel", "gradeOf", "(I)I"⟩, 27), (⟨"LogFlumeModel", "askOf", "(I)I"⟩, 27), (⟨"LogFlumeModel", "alike", "(II)I"⟩, 27)]
theorem lw_r4 : ∀ q ∈ lw_privs_4, lw_okq q := List.forall_mem_cons.mpr ⟨lw_p48, List.forall_mem_cons.mpr ⟨lw_p49, List.forall_mem_cons.mpr ⟨lw_p50, List.forall_mem_cons.mpr ⟨lw_p51, List.forall_mem_cons.mpr ⟨lw_p52, List.forall_mem_cons.mpr ⟨lw_p53, List.forall_mem_cons.mpr ⟨lw_p54, List.forall_mem_cons.mpr ⟨lw_p55, List.forall_mem_cons.mpr ⟨lw_p56, List.forall_mem_cons.mpr ⟨lw_p57, List.forall_mem_cons.mpr ⟨lw_p58, List.forall_mem_cons.mpr ⟨lw_p59, List.forall_mem_cons.mpr ⟨lw_p60, List.forall_mem_cons.mpr ⟨lw_p61, List.forall_mem_cons.mpr ⟨lw_p62, List.forall_mem_cons.mpr ⟨lw_p63, fun _ h => absurd h List.not_mem_nil⟩⟩⟩⟩⟩⟩⟩⟩⟩⟩⟩⟩⟩⟩⟩⟩
theorem lw_p64 : lw_okq (⟨"LogFlumeModel", "chanceOf", "(III)J"⟩, 27) := ⟨⟨by decide +kernel, by decide +kernel⟩, List.mem_of_getElem? (i := 646) (by decide +kernel), List.mem_of_getElem? (i := 1078) (by decide +kernel), List.mem_of_getElem? (i := 1079) (by decide +kernel)⟩
theorem lw_p65 : lw_okq (⟨"LogFlumeModel", "seasonsOf", "(III)I"⟩, 27) := ⟨⟨by decide +kernel, by decide +kernel⟩, List.mem_of_getElem? (i := 646) (by decide +kernel), List.mem_of_getElem? (i := 1093) (by decide +kernel), List.mem_of_getElem? (i := 1094) (by decide +kernel)⟩
theorem lw_p66 : lw_okq (⟨"LogFlumeModel", "lot", "(I)I"⟩, 27) := ⟨⟨by decide +kernel, by decide +kernel⟩, List.mem_of_getElem? (i := 646) (by decide +kernel), List.mem_of_getElem? (i := 1097) (by decide +kernel), List.mem_of_getElem? (i := 1098) (by decide +kernel)⟩
theorem lw_p67 : lw_okq (⟨"LogFlumeModel", "allLain", "()I"⟩, 27) := ⟨⟨by decide +kernel, by decide +kernel⟩, List.mem_of_getElem? (i := 646) (by decide +kernel), List.mem_of_getElem? (i := 1102) (by decide +kernel), List.mem_of_getElem? (i := 1103) (by decide +kernel)⟩
theorem lw_p68 : lw_okq (⟨"LogFlumeModel", "allHalts", "()I"⟩, 27) := ⟨⟨by decide +kernel, by decide +kernel⟩, List.mem_of_getElem? (i := 646) (by decide +kernel), List.mem_of_getElem? (i := 1114) (by decide +kernel), List.mem_of_getElem? (i := 1115) (by decide +kernel)⟩
theorem lw_p69 : lw_okq (⟨"LogFlumeModel", "tellsSpan", "(JI)J"⟩, 27) := ⟨⟨by decide +kernel, by decide +kernel⟩, List.mem_of_getElem? (i := 646) (by decide +kernel), List.mem_of_getElem? (i := 1125) (by decide +kernel), List.mem_of_getElem? (i := 1126) (by decide +kernel)⟩
theorem lw_p70 : lw_okq (⟨"LogFlumeModel", "tellsLog", "(JI)J"⟩, 27) := ⟨⟨by decide +kernel, by decide +kernel⟩, List.mem_of_getElem? (i := 646) (by decide +kernel), List.mem_of_getElem? (i := 1129) (by decide +kernel), List.mem_of_getElem? (i := 1130) (by decide +kernel)⟩
theorem lw_p71 : lw_okq (⟨"LogFlumeModel", "tellsMinute", "(JII)J"⟩, 27) := ⟨⟨by decide +kernel, by decide +kernel⟩, List.mem_of_getElem? (i := 646) (by decide +kernel), List.mem_of_getElem? (i := 1133) (by decide +kernel), List.mem_of_getElem? (i := 1134) (by decide +kernel)⟩
def lw_privs_5 : List (MethodName × Nat) := [(⟨"LogFlumeModel", "chanceOf", "(III)J"⟩, 27), (⟨"LogFlumeModel", "seasonsOf", "(III)I"⟩, 27), (⟨"LogFlumeModel", "lot", "(I)I"⟩, 27), (⟨"LogFlumeModel", "allLain", "()I"⟩, 27), (⟨"LogFlumeModel", "allHalts", "()I"⟩, 27), (⟨"LogFlumeModel", "tellsSpan", "(JI)J"⟩, 27), (⟨"LogFlumeModel", "tellsLog", "(JI)J"⟩, 27), (⟨"LogFlumeModel", "tellsMinute", "(JII)J"⟩, 27)]
theorem lw_r5 : ∀ q ∈ lw_privs_5, lw_okq q := List.forall_mem_cons.mpr ⟨lw_p64, List.forall_mem_cons.mpr ⟨lw_p65, List.forall_mem_cons.mpr ⟨lw_p66, List.forall_mem_cons.mpr ⟨lw_p67, List.forall_mem_cons.mpr ⟨lw_p68, List.forall_mem_cons.mpr ⟨lw_p69, List.forall_mem_cons.mpr ⟨lw_p70, List.forall_mem_cons.mpr ⟨lw_p71, fun _ h => absurd h List.not_mem_nil⟩⟩⟩⟩⟩⟩⟩⟩
def lw_privs : List (MethodName × Nat) := lw_privs_1 ++ (lw_privs_2 ++ (lw_privs_3 ++ (lw_privs_4 ++ (lw_privs_5))))
def lw_tbl : List Cond := k2_sels lw_privs ++ tables_1
theorem lw_privs_ok : ∀ q ∈ lw_privs, lw_okq q := by
  show ∀ q ∈ lw_privs_1 ++ (lw_privs_2 ++ (lw_privs_3 ++ (lw_privs_4 ++ (lw_privs_5)))), lw_okq q
  exact List.forall_mem_append.mpr ⟨lw_r1, List.forall_mem_append.mpr ⟨lw_r2, List.forall_mem_append.mpr ⟨lw_r3, List.forall_mem_append.mpr ⟨lw_r4, lw_r5⟩⟩⟩⟩
end
section
def RX0 : String := "LogFlume$Drive"
def TX0 : u_T := fun k => match k with
  | 0 => ("LogFlume$Drive", "heads", "[I", true)
  | 1 => ("LogFlume$Drive", "states", "[I", true)
  | 2 => ("LogFlume$Drive", "poles", "[I", true)
  | 3 => ("LogFlume$Drive", "line", "[I", true)
  | 4 => ("LogFlume$Drive", "lineSize", "I", false)
  | _ => ("LogFlume$Drive", "waiting", "I", false)
def tyX0 : Nat → FieldType := fun k => match k with
  | 0 => .array .int
  | 1 => .array .int
  | 2 => .array .int
  | 3 => .array .int
  | 4 => .int
  | _ => .int
abbrev wsX00 : List Cond := u_ws RX0 TX0 6
theorem nmX0 : ∀ a, a < 6 → ∀ b, b < 6 → a ≠ b → (TX0 a).2.1 ≠ (TX0 b).2.1 := by decide +kernel
theorem tyX0_ok : ∀ k, k < 6 → parseFieldDescriptor (TX0 k).2.2.1 = some (tyX0 k) := by decide +kernel
abbrev cX0_init : ByteArray := prog_2_method_1_code
def yX0_init : MethodName := ⟨RX0, "<init>", "()V"⟩
abbrev cX0_run : ByteArray := prog_2_method_2_code
def yX0_run : MethodName := ⟨RX0, "run", "(LLogFlume$Told;LLogFlume$Water;LLogFlume$Events;I)V"⟩
abbrev cX0_beginMinute : ByteArray := prog_2_method_3_code
def yX0_beginMinute : MethodName := ⟨RX0, "beginMinute", "(LLogFlume$Told;I)V"⟩
abbrev cX0_move : ByteArray := prog_2_method_4_code
def yX0_move : MethodName := ⟨RX0, "move", "(LLogFlume$Told;LLogFlume$Water;III)I"⟩
abbrev cX0_putIn : ByteArray := prog_2_method_5_code
def yX0_putIn : MethodName := ⟨RX0, "putIn", "(LLogFlume$Told;I)V"⟩
abbrev cX0_lierIn : ByteArray := prog_2_method_6_code
def yX0_lierIn : MethodName := ⟨RX0, "lierIn", "(LLogFlume$Told;II)I"⟩
abbrev cX0_afloatOrLying : ByteArray := prog_2_method_7_code
def yX0_afloatOrLying : MethodName := ⟨RX0, "afloatOrLying", "(LLogFlume$Told;I)I"⟩
abbrev cX0_minuteOut : ByteArray := prog_2_method_8_code
def yX0_minuteOut : MethodName := ⟨RX0, "minuteOut", "(I)I"⟩
abbrev cX0_minutesIn : ByteArray := prog_2_method_9_code
def yX0_minutesIn : MethodName := ⟨RX0, "minutesIn", "(II)I"⟩
abbrev cX0_minutesOfAll : ByteArray := prog_2_method_10_code
def yX0_minutesOfAll : MethodName := ⟨RX0, "minutesOfAll", "(LLogFlume$Told;I)I"⟩
abbrev cX0_outBits : ByteArray := prog_2_method_11_code
def yX0_outBits : MethodName := ⟨RX0, "outBits", "(LLogFlume$Told;)I"⟩
abbrev cX0_trace : ByteArray := prog_2_method_12_code
def yX0_trace : MethodName := ⟨RX0, "trace", "(LLogFlume$Told;[JI)V"⟩
def RX1 : String := "LogFlume$Events"
def TX1 : u_T := fun k => match k with
  | 0 => ("LogFlume$Events", "kinds", "[I", true)
  | 1 => ("LogFlume$Events", "minutes", "[I", true)
  | 2 => ("LogFlume$Events", "numbers", "[I", true)
  | _ => ("LogFlume$Events", "size", "I", false)
def tyX1 : Nat → FieldType := fun k => match k with
  | 0 => .array .int
  | 1 => .array .int
  | 2 => .array .int
  | _ => .int
abbrev wsX10 : List Cond := u_ws RX1 TX1 4
theorem nmX1 : ∀ a, a < 4 → ∀ b, b < 4 → a ≠ b → (TX1 a).2.1 ≠ (TX1 b).2.1 := by decide +kernel
theorem tyX1_ok : ∀ k, k < 4 → parseFieldDescriptor (TX1 k).2.2.1 = some (tyX1 k) := by decide +kernel
abbrev cX1_init : ByteArray := prog_3_method_1_code
def yX1_init : MethodName := ⟨RX1, "<init>", "()V"⟩
abbrev cX1_mayBe : ByteArray := prog_3_method_2_code
def yX1_mayBe : MethodName := ⟨RX1, "mayBe", "(III)Z"⟩
abbrev cX1_append : ByteArray := prog_3_method_3_code
def yX1_append : MethodName := ⟨RX1, "append", "(III)Z"⟩
abbrev cX1_bits : ByteArray := prog_3_method_4_code
def yX1_bits : MethodName := ⟨RX1, "bits", "()I"⟩
abbrev cX1_mark : ByteArray := prog_3_method_5_code
def yX1_mark : MethodName := ⟨RX1, "mark", "(II[I)V"⟩
def RX2 : String := "LogFlume$Sheet"
def TX2 : u_T := fun k => match k with
  | 0 => ("LogFlume$Sheet", "items", "[I", true)
  | 1 => ("LogFlume$Sheet", "form", "I", false)
  | _ => ("LogFlume$Sheet", "size", "I", false)
def tyX2 : Nat → FieldType := fun k => match k with
  | 0 => .array .int
  | 1 => .int
  | _ => .int
abbrev wsX20 : List Cond := u_ws RX2 TX2 3
theorem nmX2 : ∀ a, a < 3 → ∀ b, b < 3 → a ≠ b → (TX2 a).2.1 ≠ (TX2 b).2.1 := by decide +kernel
theorem tyX2_ok : ∀ k, k < 3 → parseFieldDescriptor (TX2 k).2.2.1 = some (tyX2 k) := by decide +kernel
abbrev cX2_init : ByteArray := prog_4_method_1_code
def yX2_init : MethodName := ⟨RX2, "<init>", "()V"⟩
abbrev cX2_isLost : ByteArray := prog_4_method_2_code
def yX2_isLost : MethodName := ⟨RX2, "isLost", "()Z"⟩
abbrev cX2_renew : ByteArray := prog_4_method_3_code
def yX2_renew : MethodName := ⟨RX2, "renew", "(II)V"⟩
abbrev cX2_findingAt : ByteArray := prog_4_method_4_code
def yX2_findingAt : MethodName := ⟨RX2, "findingAt", "(II)I"⟩
abbrev cX2_hasRun : ByteArray := prog_4_method_5_code
def yX2_hasRun : MethodName := ⟨RX2, "hasRun", "(II)Z"⟩
abbrev cX2_put : ByteArray := prog_4_method_6_code
def yX2_put : MethodName := ⟨RX2, "put", "(II)V"⟩
def RX3 : String := "LogFlume$Sights"
def TX3 : u_T := fun k => match k with
  | 0 => ("LogFlume$Sights", "minutes", "[I", true)
  | 1 => ("LogFlume$Sights", "spans", "[I", true)
  | 2 => ("LogFlume$Sights", "liers", "[I", true)
  | _ => ("LogFlume$Sights", "size", "I", false)
def tyX3 : Nat → FieldType := fun k => match k with
  | 0 => .array .int
  | 1 => .array .int
  | 2 => .array .int
  | _ => .int
abbrev wsX30 : List Cond := u_ws RX3 TX3 4
theorem nmX3 : ∀ a, a < 4 → ∀ b, b < 4 → a ≠ b → (TX3 a).2.1 ≠ (TX3 b).2.1 := by decide +kernel
theorem tyX3_ok : ∀ k, k < 4 → parseFieldDescriptor (TX3 k).2.2.1 = some (tyX3 k) := by decide +kernel
abbrev cX3_init : ByteArray := prog_5_method_1_code
def yX3_init : MethodName := ⟨RX3, "<init>", "()V"⟩
abbrev cX3_append : ByteArray := prog_5_method_2_code
def yX3_append : MethodName := ⟨RX3, "append", "(III)Z"⟩
abbrev cX3_fit : ByteArray := prog_5_method_3_code
def yX3_fit : MethodName := ⟨RX3, "fit", "(LLogFlume$Told;LLogFlume$Drive;)Z"⟩
def RX4 : String := "LogFlume$Text"
def TX4 : u_T := fun k => match k with
  | 0 => ("LogFlume$Text", "bytes", "[I", true)
  | _ => ("LogFlume$Text", "size", "I", false)
def tyX4 : Nat → FieldType := fun k => match k with
  | 0 => .array .int
  | _ => .int
abbrev wsX40 : List Cond := u_ws RX4 TX4 2
theorem nmX4 : ∀ a, a < 2 → ∀ b, b < 2 → a ≠ b → (TX4 a).2.1 ≠ (TX4 b).2.1 := by decide +kernel
theorem tyX4_ok : ∀ k, k < 2 → parseFieldDescriptor (TX4 k).2.2.1 = some (tyX4 k) := by decide +kernel
abbrev cX4_init : ByteArray := prog_6_method_1_code
def yX4_init : MethodName := ⟨RX4, "<init>", "(I)V"⟩
abbrev cX4_append : ByteArray := prog_6_method_2_code
def yX4_append : MethodName := ⟨RX4, "append", "(I)Z"⟩
def RX5 : String := "LogFlume$Told"
def TX5 : u_T := fun k => match k with
  | 0 => ("LogFlume$Told", "slopes", "[I", true)
  | 1 => ("LogFlume$Told", "feeders", "[I", true)
  | 2 => ("LogFlume$Told", "starts", "[I", true)
  | 3 => ("LogFlume$Told", "depths", "[I", true)
  | 4 => ("LogFlume$Told", "tails", "[I", true)
  | _ => ("LogFlume$Told", "logs", "I", false)
def tyX5 : Nat → FieldType := fun k => match k with
  | 0 => .array .int
  | 1 => .array .int
  | 2 => .array .int
  | 3 => .array .int
  | 4 => .array .int
  | _ => .int
abbrev wsX50 : List Cond := u_ws RX5 TX5 6
theorem nmX5 : ∀ a, a < 6 → ∀ b, b < 6 → a ≠ b → (TX5 a).2.1 ≠ (TX5 b).2.1 := by decide +kernel
theorem tyX5_ok : ∀ k, k < 6 → parseFieldDescriptor (TX5 k).2.2.1 = some (tyX5 k) := by decide +kernel
abbrev cX5_init : ByteArray := prog_7_method_1_code
def yX5_init : MethodName := ⟨RX5, "<init>", "()V"⟩
abbrev cX5_tellSlopes : ByteArray := prog_7_method_2_code
def yX5_tellSlopes : MethodName := ⟨RX5, "tellSlopes", "(LLogFlume$Text;)I"⟩
abbrev cX5_tellFeeders : ByteArray := prog_7_method_3_code
def yX5_tellFeeders : MethodName := ⟨RX5, "tellFeeders", "(LLogFlume$Text;)I"⟩
abbrev cX5_tellFigures : ByteArray := prog_7_method_4_code
def yX5_tellFigures : MethodName := ⟨RX5, "tellFigures", "(LLogFlume$Text;II[II)I"⟩
abbrev cX5_tellLogs : ByteArray := prog_7_method_5_code
def yX5_tellLogs : MethodName := ⟨RX5, "tellLogs", "(LLogFlume$Text;)I"⟩
abbrev cX5_faultOfLogs : ByteArray := prog_7_method_6_code
def yX5_faultOfLogs : MethodName := ⟨RX5, "faultOfLogs", "(LLogFlume$Text;)I"⟩
abbrev cX5_mayStand : ByteArray := prog_7_method_7_code
def yX5_mayStand : MethodName := ⟨RX5, "mayStand", "(II)Z"⟩
abbrev cX5_logBits : ByteArray := prog_7_method_8_code
def yX5_logBits : MethodName := ⟨RX5, "logBits", "()I"⟩
def RX6 : String := "LogFlume$Water"
def TX6 : u_T := fun k => match k with
  | 0 => ("LogFlume$Water", "levels", "[I", true)
  | 1 => ("LogFlume$Water", "shut", "[I", true)
  | _ => ("LogFlume$Water", "burst", "[I", true)
def tyX6 : Nat → FieldType := fun k => match k with
  | 0 => .array .int
  | 1 => .array .int
  | _ => .array .int
abbrev wsX60 : List Cond := u_ws RX6 TX6 3
theorem nmX6 : ∀ a, a < 3 → ∀ b, b < 3 → a ≠ b → (TX6 a).2.1 ≠ (TX6 b).2.1 := by decide +kernel
theorem tyX6_ok : ∀ k, k < 3 → parseFieldDescriptor (TX6 k).2.2.1 = some (tyX6 k) := by decide +kernel
abbrev cX6_init : ByteArray := prog_8_method_1_code
def yX6_init : MethodName := ⟨RX6, "<init>", "()V"⟩
abbrev cX6_pour : ByteArray := prog_8_method_2_code
def yX6_pour : MethodName := ⟨RX6, "pour", "([ILLogFlume$Events;I)V"⟩
abbrev cX6_together : ByteArray := prog_8_method_3_code
def yX6_together : MethodName := ⟨RX6, "together", "(I)I"⟩
abbrev cX6_dryBits : ByteArray := prog_8_method_4_code
def yX6_dryBits : MethodName := ⟨RX6, "dryBits", "()I"⟩
def RX7 : String := "LogFlume"
def TX7 : u_T := fun k => match k with
  | 0 => ("LogFlume", "texts", "[LLogFlume$Text;", true)
  | 1 => ("LogFlume", "faults", "[I", true)
  | 2 => ("LogFlume", "told", "LLogFlume$Told;", true)
  | 3 => ("LogFlume", "events", "LLogFlume$Events;", true)
  | 4 => ("LogFlume", "sights", "LLogFlume$Sights;", true)
  | 5 => ("LogFlume", "sheets", "[LLogFlume$Sheet;", true)
  | 6 => ("LogFlume", "latestFinding", "I", false)
  | 7 => ("LogFlume", "settled", "Z", false)
  | 8 => ("LogFlume", "water", "LLogFlume$Water;", true)
  | 9 => ("LogFlume", "drive", "LLogFlume$Drive;", true)
  | 10 => ("LogFlume", "otherWater", "LLogFlume$Water;", true)
  | 11 => ("LogFlume", "otherDrive", "LLogFlume$Drive;", true)
  | 12 => ("LogFlume", "otherFeeders", "[I", true)
  | 13 => ("LogFlume", "outcomes", "[I", true)
  | 14 => ("LogFlume", "traces", "[J", true)
  | 15 => ("LogFlume", "best", "I", false)
  | _ => ("LogFlume", "bestOut", "I", false)
def tyX7 : Nat → FieldType := fun k => match k with
  | 0 => .array (.object "LogFlume$Text")
  | 1 => .array .int
  | 2 => .object "LogFlume$Told"
  | 3 => .object "LogFlume$Events"
  | 4 => .object "LogFlume$Sights"
  | 5 => .array (.object "LogFlume$Sheet")
  | 6 => .int
  | 7 => .boolean
  | 8 => .object "LogFlume$Water"
  | 9 => .object "LogFlume$Drive"
  | 10 => .object "LogFlume$Water"
  | 11 => .object "LogFlume$Drive"
  | 12 => .array .int
  | 13 => .array .int
  | 14 => .array .long
  | 15 => .int
  | _ => .int
abbrev wsX70 : List Cond := u_ws RX7 TX7 17
theorem nmX7 : ∀ a, a < 17 → ∀ b, b < 17 → a ≠ b → (TX7 a).2.1 ≠ (TX7 b).2.1 := by decide +kernel
theorem tyX7_ok : ∀ k, k < 17 → parseFieldDescriptor (TX7 k).2.2.1 = some (tyX7 k) := by decide +kernel
abbrev cX7_init : ByteArray := prog_1_method_1_code
def yX7_init : MethodName := ⟨RX7, "<init>", "()V"⟩
abbrev cX7_type : ByteArray := prog_1_method_2_code
def yX7_type : MethodName := ⟨RX7, "type", "(II)I"⟩
abbrev cX7_wipe : ByteArray := prog_1_method_3_code
def yX7_wipe : MethodName := ⟨RX7, "wipe", "(I)I"⟩
abbrev cX7_undo : ByteArray := prog_1_method_4_code
def yX7_undo : MethodName := ⟨RX7, "undo", "(I)I"⟩
abbrev cX7_fault : ByteArray := prog_1_method_5_code
def yX7_fault : MethodName := ⟨RX7, "fault", "(I)I"⟩
abbrev cX7_span : ByteArray := prog_1_method_6_code
def yX7_span : MethodName := ⟨RX7, "span", "(II)I"⟩
abbrev cX7_log : ByteArray := prog_1_method_7_code
def yX7_log : MethodName := ⟨RX7, "log", "(II)I"⟩
abbrev cX7_event : ByteArray := prog_1_method_8_code
def yX7_event : MethodName := ⟨RX7, "event", "(III)I"⟩
abbrev cX7_back : ByteArray := prog_1_method_9_code
def yX7_back : MethodName := ⟨RX7, "back", "()I"⟩
abbrev cX7_read : ByteArray := prog_1_method_10_code
def yX7_read : MethodName := ⟨RX7, "read", "(I)I"⟩
abbrev cX7_flume : ByteArray := prog_1_method_11_code
def yX7_flume : MethodName := ⟨RX7, "flume", "(III)I"⟩
abbrev cX7_at : ByteArray := prog_1_method_12_code
def yX7_at : MethodName := ⟨RX7, "at", "(III)I"⟩
abbrev cX7_all : ByteArray := prog_1_method_13_code
def yX7_all : MethodName := ⟨RX7, "all", "(II)I"⟩
abbrev cX7_out : ByteArray := prog_1_method_14_code
def yX7_out : MethodName := ⟨RX7, "out", "(II)I"⟩
abbrev cX7_jam : ByteArray := prog_1_method_15_code
def yX7_jam : MethodName := ⟨RX7, "jam", "()I"⟩
abbrev cX7_left : ByteArray := prog_1_method_16_code
def yX7_left : MethodName := ⟨RX7, "left", "(I)I"⟩
abbrev cX7_worst : ByteArray := prog_1_method_17_code
def yX7_worst : MethodName := ⟨RX7, "worst", "()I"⟩
abbrev cX7_send : ByteArray := prog_1_method_18_code
def yX7_send : MethodName := ⟨RX7, "send", "(II)I"⟩
abbrev cX7_steep : ByteArray := prog_1_method_19_code
def yX7_steep : MethodName := ⟨RX7, "steep", "(I)I"⟩
abbrev cX7_fill : ByteArray := prog_1_method_20_code
def yX7_fill : MethodName := ⟨RX7, "fill", "(I)I"⟩
abbrev cX7_spare : ByteArray := prog_1_method_21_code
def yX7_spare : MethodName := ⟨RX7, "spare", "(I)I"⟩
abbrev cX7_seen : ByteArray := prog_1_method_22_code
def yX7_seen : MethodName := ⟨RX7, "seen", "(III)I"⟩
abbrev cX7_forget : ByteArray := prog_1_method_23_code
def yX7_forget : MethodName := ⟨RX7, "forget", "()I"⟩
abbrev cX7_never : ByteArray := prog_1_method_24_code
def yX7_never : MethodName := ⟨RX7, "never", "()I"⟩
abbrev cX7_draughts : ByteArray := prog_1_method_25_code
def yX7_draughts : MethodName := ⟨RX7, "draughts", "(I)I"⟩
abbrev cX7_grade : ByteArray := prog_1_method_26_code
def yX7_grade : MethodName := ⟨RX7, "grade", "(I)I"⟩
abbrev cX7_ask : ByteArray := prog_1_method_27_code
def yX7_ask : MethodName := ⟨RX7, "ask", "(I)I"⟩
abbrev cX7_chance : ByteArray := prog_1_method_28_code
def yX7_chance : MethodName := ⟨RX7, "chance", "(III)J"⟩
abbrev cX7_seasons : ByteArray := prog_1_method_29_code
def yX7_seasons : MethodName := ⟨RX7, "seasons", "(III)I"⟩
abbrev cX7_sheet : ByteArray := prog_1_method_30_code
def yX7_sheet : MethodName := ⟨RX7, "sheet", "(III)I"⟩
abbrev cX7_lose : ByteArray := prog_1_method_31_code
def yX7_lose : MethodName := ⟨RX7, "lose", "(I)I"⟩
abbrev cX7_lay : ByteArray := prog_1_method_32_code
def yX7_lay : MethodName := ⟨RX7, "lay", "(IIII)I"⟩
abbrev cX7_get : ByteArray := prog_1_method_33_code
def yX7_get : MethodName := ⟨RX7, "get", "(III)I"⟩
abbrev cX7_copy : ByteArray := prog_1_method_34_code
def yX7_copy : MethodName := ⟨RX7, "copy", "(IIIII)I"⟩
abbrev cX7_write : ByteArray := prog_1_method_35_code
def yX7_write : MethodName := ⟨RX7, "write", "(II)I"⟩
abbrev cX7_count : ByteArray := prog_1_method_36_code
def yX7_count : MethodName := ⟨RX7, "count", "(I)I"⟩
abbrev cX7_digest : ByteArray := prog_1_method_37_code
def yX7_digest : MethodName := ⟨RX7, "digest", "()J"⟩
abbrev cX7_within : ByteArray := prog_1_method_38_code
def yX7_within : MethodName := ⟨RX7, "within", "(II)Z"⟩
abbrev cX7_bitAt : ByteArray := prog_1_method_39_code
def yX7_bitAt : MethodName := ⟨RX7, "bitAt", "(II)I"⟩
abbrev cX7_isLog : ByteArray := prog_1_method_40_code
def yX7_isLog : MethodName := ⟨RX7, "isLog", "(I)Z"⟩
abbrev cX7_found : ByteArray := prog_1_method_41_code
def yX7_found : MethodName := ⟨RX7, "found", "(I)I"⟩
abbrev cX7_tellAgain : ByteArray := prog_1_method_42_code
def yX7_tellAgain : MethodName := ⟨RX7, "tellAgain", "(I)V"⟩
abbrev cX7_unsettle : ByteArray := prog_1_method_43_code
def yX7_unsettle : MethodName := ⟨RX7, "unsettle", "()V"⟩
abbrev cX7_settle : ByteArray := prog_1_method_44_code
def yX7_settle : MethodName := ⟨RX7, "settle", "()V"⟩
abbrev cX7_startSearch : ByteArray := prog_1_method_45_code
def yX7_startSearch : MethodName := ⟨RX7, "startSearch", "()V"⟩
abbrev cX7_weigh : ByteArray := prog_1_method_46_code
def yX7_weigh : MethodName := ⟨RX7, "weigh", "(I)V"⟩
abbrev cX7_searchSend : ByteArray := prog_1_method_47_code
def yX7_searchSend : MethodName := ⟨RX7, "searchSend", "(I)V"⟩
abbrev cX7_searchSteep : ByteArray := prog_1_method_48_code
def yX7_searchSteep : MethodName := ⟨RX7, "searchSteep", "()V"⟩
abbrev cX7_searchFill : ByteArray := prog_1_method_49_code
def yX7_searchFill : MethodName := ⟨RX7, "searchFill", "()V"⟩
abbrev cX7_sparedEvents : ByteArray := prog_1_method_50_code
def yX7_sparedEvents : MethodName := ⟨RX7, "sparedEvents", "()I"⟩
abbrev cX7_outcome : ByteArray := prog_1_method_51_code
def yX7_outcome : MethodName := ⟨RX7, "outcome", "(I)I"⟩
abbrev cX7_sixteenthsOut : ByteArray := prog_1_method_52_code
def yX7_sixteenthsOut : MethodName := ⟨RX7, "sixteenthsOut", "(II)J"⟩
abbrev cX7_traceDraughts : ByteArray := prog_1_method_53_code
def yX7_traceDraughts : MethodName := ⟨RX7, "traceDraughts", "(I)I"⟩
abbrev cX7_mostAlike : ByteArray := prog_1_method_54_code
def yX7_mostAlike : MethodName := ⟨RX7, "mostAlike", "(II)I"⟩
abbrev cX7_mixSpan : ByteArray := prog_1_method_55_code
def yX7_mixSpan : MethodName := ⟨RX7, "mixSpan", "(JI)J"⟩
abbrev cX7_mixLogMinutes : ByteArray := prog_1_method_56_code
def yX7_mixLogMinutes : MethodName := ⟨RX7, "mixLogMinutes", "(JI)J"⟩
abbrev cX7_mixLogPlans : ByteArray := prog_1_method_57_code
def yX7_mixLogPlans : MethodName := ⟨RX7, "mixLogPlans", "(JI)J"⟩
abbrev cX7_mixWhole : ByteArray := prog_1_method_58_code
def yX7_mixWhole : MethodName := ⟨RX7, "mixWhole", "(J)J"⟩
def RX8 : String := "LogFlumeModel"
def TX8 : u_T := fun k => match k with
  | 0 => ("LogFlumeModel", "forms", "[I", true)
  | 1 => ("LogFlumeModel", "sizes", "[I", true)
  | 2 => ("LogFlumeModel", "items", "[I", true)
  | 3 => ("LogFlumeModel", "moved", "[I", true)
  | 4 => ("LogFlumeModel", "latest", "I", false)
  | 5 => ("LogFlumeModel", "bytes", "[I", true)
  | 6 => ("LogFlumeModel", "typed", "[I", true)
  | 7 => ("LogFlumeModel", "slope", "[I", true)
  | 8 => ("LogFlumeModel", "feeder", "[I", true)
  | 9 => ("LogFlumeModel", "logs", "I", false)
  | 10 => ("LogFlumeModel", "log", "[I", true)
  | 11 => ("LogFlumeModel", "events", "I", false)
  | 12 => ("LogFlumeModel", "event", "[I", true)
  | 13 => ("LogFlumeModel", "gone", "I", false)
  | 14 => ("LogFlumeModel", "water", "[I", true)
  | 15 => ("LogFlumeModel", "head", "[I", true)
  | 16 => ("LogFlumeModel", "trouble", "[I", true)
  | 17 => ("LogFlumeModel", "outIn", "[I", true)
  | 18 => ("LogFlumeModel", "lain", "[I", true)
  | 19 => ("LogFlumeModel", "halts", "[I", true)
  | 20 => ("LogFlumeModel", "waterBy", "[I", true)
  | 21 => ("LogFlumeModel", "headBy", "[I", true)
  | 22 => ("LogFlumeModel", "troubleBy", "[I", true)
  | 23 => ("LogFlumeModel", "sights", "I", false)
  | 24 => ("LogFlumeModel", "sight", "[I", true)
  | 25 => ("LogFlumeModel", "rows", "[J", true)
  | _ => ("LogFlumeModel", "drawn", "I", false)
def tyX8 : Nat → FieldType := fun k => match k with
  | 0 => .array .int
  | 1 => .array .int
  | 2 => .array .int
  | 3 => .array .int
  | 4 => .int
  | 5 => .array .int
  | 6 => .array .int
  | 7 => .array .int
  | 8 => .array .int
  | 9 => .int
  | 10 => .array .int
  | 11 => .int
  | 12 => .array .int
  | 13 => .int
  | 14 => .array .int
  | 15 => .array .int
  | 16 => .array .int
  | 17 => .array .int
  | 18 => .array .int
  | 19 => .array .int
  | 20 => .array .int
  | 21 => .array .int
  | 22 => .array .int
  | 23 => .int
  | 24 => .array .int
  | 25 => .array .long
  | _ => .int
abbrev wsX80 : List Cond := u_ws RX8 TX8 27
theorem nmX8 : ∀ a, a < 27 → ∀ b, b < 27 → a ≠ b → (TX8 a).2.1 ≠ (TX8 b).2.1 := by decide +kernel
theorem tyX8_ok : ∀ k, k < 27 → parseFieldDescriptor (TX8 k).2.2.1 = some (tyX8 k) := by decide +kernel
abbrev cX8_init : ByteArray := prog_10_method_1_code
def yX8_init : MethodName := ⟨RX8, "<init>", "()V"⟩
abbrev cX8_in : ByteArray := prog_10_method_3_code
def yX8_in : MethodName := ⟨RX8, "in", "(JJJ)Z"⟩
abbrev cX8_no : ByteArray := prog_10_method_4_code
def yX8_no : MethodName := ⟨RX8, "no", "(I)J"⟩
abbrev cX8_isTwo : ByteArray := prog_10_method_5_code
def yX8_isTwo : MethodName := ⟨RX8, "isTwo", "(I)Z"⟩
abbrev cX8_isIn : ByteArray := prog_10_method_6_code
def yX8_isIn : MethodName := ⟨RX8, "isIn", "(II)Z"⟩
abbrev cX8_lesser : ByteArray := prog_10_method_7_code
def yX8_lesser : MethodName := ⟨RX8, "lesser", "(II)I"⟩
abbrev cX8_greater : ByteArray := prog_10_method_8_code
def yX8_greater : MethodName := ⟨RX8, "greater", "(II)I"⟩
abbrev cX8_part : ByteArray := prog_10_method_9_code
def yX8_part : MethodName := ⟨RX8, "part", "(JJI)J"⟩
abbrev cX8_finds : ByteArray := prog_10_method_10_code
def yX8_finds : MethodName := ⟨RX8, "finds", "(I)I"⟩
abbrev cX8_isSheet : ByteArray := prog_10_method_11_code
def yX8_isSheet : MethodName := ⟨RX8, "isSheet", "(I)Z"⟩
abbrev cX8_sheet : ByteArray := prog_10_method_12_code
def yX8_sheet : MethodName := ⟨RX8, "sheet", "(III)I"⟩
abbrev cX8_lose : ByteArray := prog_10_method_13_code
def yX8_lose : MethodName := ⟨RX8, "lose", "(I)I"⟩
abbrev cX8_lacks : ByteArray := prog_10_method_14_code
def yX8_lacks : MethodName := ⟨RX8, "lacks", "(III)I"⟩
abbrev cX8_cut : ByteArray := prog_10_method_15_code
def yX8_cut : MethodName := ⟨RX8, "cut", "(II)I"⟩
abbrev cX8_lay : ByteArray := prog_10_method_16_code
def yX8_lay : MethodName := ⟨RX8, "lay", "(IIII)I"⟩
abbrev cX8_get : ByteArray := prog_10_method_17_code
def yX8_get : MethodName := ⟨RX8, "get", "(III)I"⟩
abbrev cX8_copy : ByteArray := prog_10_method_18_code
def yX8_copy : MethodName := ⟨RX8, "copy", "(IIIII)I"⟩
abbrev cX8_isText : ByteArray := prog_10_method_19_code
def yX8_isText : MethodName := ⟨RX8, "isText", "(I)Z"⟩
abbrev cX8_type : ByteArray := prog_10_method_20_code
def yX8_type : MethodName := ⟨RX8, "type", "(II)I"⟩
abbrev cX8_wipe : ByteArray := prog_10_method_21_code
def yX8_wipe : MethodName := ⟨RX8, "wipe", "(I)I"⟩
abbrev cX8_undo : ByteArray := prog_10_method_22_code
def yX8_undo : MethodName := ⟨RX8, "undo", "(I)I"⟩
abbrev cX8_figureOf : ByteArray := prog_10_method_23_code
def yX8_figureOf : MethodName := ⟨RX8, "figureOf", "(III)I"⟩
abbrev cX8_gentle : ByteArray := prog_10_method_24_code
def yX8_gentle : MethodName := ⟨RX8, "gentle", "()V"⟩
abbrev cX8_readsSlopes : ByteArray := prog_10_method_25_code
def yX8_readsSlopes : MethodName := ⟨RX8, "readsSlopes", "()I"⟩
abbrev cX8_dries : ByteArray := prog_10_method_26_code
def yX8_dries : MethodName := ⟨RX8, "dries", "()V"⟩
abbrev cX8_readsFeeders : ByteArray := prog_10_method_27_code
def yX8_readsFeeders : MethodName := ⟨RX8, "readsFeeders", "()I"⟩
abbrev cX8_logOf : ByteArray := prog_10_method_28_code
def yX8_logOf : MethodName := ⟨RX8, "logOf", "(II)I"⟩
abbrev cX8_readsLogs : ByteArray := prog_10_method_29_code
def yX8_readsLogs : MethodName := ⟨RX8, "readsLogs", "()I"⟩
abbrev cX8_readsText : ByteArray := prog_10_method_30_code
def yX8_readsText : MethodName := ⟨RX8, "readsText", "(I)I"⟩
abbrev cX8_fault : ByteArray := prog_10_method_31_code
def yX8_fault : MethodName := ⟨RX8, "fault", "(I)I"⟩
abbrev cX8_isSpan : ByteArray := prog_10_method_32_code
def yX8_isSpan : MethodName := ⟨RX8, "isSpan", "(I)Z"⟩
abbrev cX8_isMinute : ByteArray := prog_10_method_33_code
def yX8_isMinute : MethodName := ⟨RX8, "isMinute", "(I)Z"⟩
abbrev cX8_isLog : ByteArray := prog_10_method_34_code
def yX8_isLog : MethodName := ⟨RX8, "isLog", "(I)Z"⟩
abbrev cX8_spanBy : ByteArray := prog_10_method_35_code
def yX8_spanBy : MethodName := ⟨RX8, "spanBy", "(II)I"⟩
abbrev cX8_span : ByteArray := prog_10_method_36_code
def yX8_span : MethodName := ⟨RX8, "span", "(II)I"⟩
abbrev cX8_log : ByteArray := prog_10_method_37_code
def yX8_log : MethodName := ⟨RX8, "log", "(II)I"⟩
abbrev cX8_event : ByteArray := prog_10_method_38_code
def yX8_event : MethodName := ⟨RX8, "event", "(III)I"⟩
abbrev cX8_back : ByteArray := prog_10_method_39_code
def yX8_back : MethodName := ⟨RX8, "back", "()I"⟩
abbrev cX8_read : ByteArray := prog_10_method_40_code
def yX8_read : MethodName := ⟨RX8, "read", "(I)I"⟩
abbrev cX8_told : ByteArray := prog_10_method_41_code
def yX8_told : MethodName := ⟨RX8, "told", "(II)I"⟩
abbrev cX8_flows : ByteArray := prog_10_method_42_code
def yX8_flows : MethodName := ⟨RX8, "flows", "(I)V"⟩
abbrev cX8_lies : ByteArray := prog_10_method_43_code
def yX8_lies : MethodName := ⟨RX8, "lies", "(IZI)Z"⟩
abbrev cX8_whoBut : ByteArray := prog_10_method_44_code
def yX8_whoBut : MethodName := ⟨RX8, "whoBut", "(II)I"⟩
abbrev cX8_floats : ByteArray := prog_10_method_45_code
def yX8_floats : MethodName := ⟨RX8, "floats", "(IIZ)V"⟩
abbrev cX8_logsGo : ByteArray := prog_10_method_46_code
def yX8_logsGo : MethodName := ⟨RX8, "logsGo", "(I)V"⟩
abbrev cX8_passes : ByteArray := prog_10_method_47_code
def yX8_passes : MethodName := ⟨RX8, "passes", "(I)V"⟩
abbrev cX8_lives : ByteArray := prog_10_method_48_code
def yX8_lives : MethodName := ⟨RX8, "lives", "()V"⟩
abbrev cX8_find : ByteArray := prog_10_method_49_code
def yX8_find : MethodName := ⟨RX8, "find", "()V"⟩
abbrev cX8_whoBy : ByteArray := prog_10_method_50_code
def yX8_whoBy : MethodName := ⟨RX8, "whoBy", "(II)I"⟩
abbrev cX8_flumeBy : ByteArray := prog_10_method_51_code
def yX8_flumeBy : MethodName := ⟨RX8, "flumeBy", "(III)I"⟩
abbrev cX8_flume : ByteArray := prog_10_method_52_code
def yX8_flume : MethodName := ⟨RX8, "flume", "(III)I"⟩
abbrev cX8_atBy : ByteArray := prog_10_method_53_code
def yX8_atBy : MethodName := ⟨RX8, "atBy", "(III)I"⟩
abbrev cX8_at : ByteArray := prog_10_method_54_code
def yX8_at : MethodName := ⟨RX8, "at", "(III)I"⟩
abbrev cX8_allBy : ByteArray := prog_10_method_55_code
def yX8_allBy : MethodName := ⟨RX8, "allBy", "(II)I"⟩
abbrev cX8_all : ByteArray := prog_10_method_56_code
def yX8_all : MethodName := ⟨RX8, "all", "(II)I"⟩
abbrev cX8_outBy : ByteArray := prog_10_method_57_code
def yX8_outBy : MethodName := ⟨RX8, "outBy", "(II)I"⟩
abbrev cX8_out : ByteArray := prog_10_method_58_code
def yX8_out : MethodName := ⟨RX8, "out", "(II)I"⟩
abbrev cX8_jamNow : ByteArray := prog_10_method_59_code
def yX8_jamNow : MethodName := ⟨RX8, "jamNow", "()I"⟩
abbrev cX8_jam : ByteArray := prog_10_method_60_code
def yX8_jam : MethodName := ⟨RX8, "jam", "()I"⟩
abbrev cX8_dryNow : ByteArray := prog_10_method_61_code
def yX8_dryNow : MethodName := ⟨RX8, "dryNow", "()I"⟩
abbrev cX8_lateNow : ByteArray := prog_10_method_62_code
def yX8_lateNow : MethodName := ⟨RX8, "lateNow", "()I"⟩
abbrev cX8_leftBy : ByteArray := prog_10_method_63_code
def yX8_leftBy : MethodName := ⟨RX8, "leftBy", "(I)I"⟩
abbrev cX8_left : ByteArray := prog_10_method_64_code
def yX8_left : MethodName := ⟨RX8, "left", "(I)I"⟩
abbrev cX8_worstNow : ByteArray := prog_10_method_65_code
def yX8_worstNow : MethodName := ⟨RX8, "worstNow", "()I"⟩
abbrev cX8_worst : ByteArray := prog_10_method_66_code
def yX8_worst : MethodName := ⟨RX8, "worst", "()I"⟩
abbrev cX8_manyOut : ByteArray := prog_10_method_67_code
def yX8_manyOut : MethodName := ⟨RX8, "manyOut", "()I"⟩
abbrev cX8_allLain : ByteArray := prog_10_method_68_code
def yX8_allLain : MethodName := ⟨RX8, "allLain", "()I"⟩
abbrev cX8_allHalts : ByteArray := prog_10_method_69_code
def yX8_allHalts : MethodName := ⟨RX8, "allHalts", "()I"⟩
abbrev cX8_sendOf : ByteArray := prog_10_method_70_code
def yX8_sendOf : MethodName := ⟨RX8, "sendOf", "(II)I"⟩
abbrev cX8_send : ByteArray := prog_10_method_71_code
def yX8_send : MethodName := ⟨RX8, "send", "(II)I"⟩
abbrev cX8_steepBy : ByteArray := prog_10_method_72_code
def yX8_steepBy : MethodName := ⟨RX8, "steepBy", "(I)I"⟩
abbrev cX8_steep : ByteArray := prog_10_method_73_code
def yX8_steep : MethodName := ⟨RX8, "steep", "(I)I"⟩
abbrev cX8_fillBy : ByteArray := prog_10_method_74_code
def yX8_fillBy : MethodName := ⟨RX8, "fillBy", "(I)I"⟩
abbrev cX8_fill : ByteArray := prog_10_method_75_code
def yX8_fill : MethodName := ⟨RX8, "fill", "(I)I"⟩
abbrev cX8_isSpared : ByteArray := prog_10_method_76_code
def yX8_isSpared : MethodName := ⟨RX8, "isSpared", "(I)Z"⟩
abbrev cX8_spareBy : ByteArray := prog_10_method_77_code
def yX8_spareBy : MethodName := ⟨RX8, "spareBy", "(I)I"⟩
abbrev cX8_spare : ByteArray := prog_10_method_78_code
def yX8_spare : MethodName := ⟨RX8, "spare", "(I)I"⟩
abbrev cX8_seen : ByteArray := prog_10_method_79_code
def yX8_seen : MethodName := ⟨RX8, "seen", "(III)I"⟩
abbrev cX8_forget : ByteArray := prog_10_method_80_code
def yX8_forget : MethodName := ⟨RX8, "forget", "()I"⟩
abbrev cX8_isSeen : ByteArray := prog_10_method_81_code
def yX8_isSeen : MethodName := ⟨RX8, "isSeen", "()Z"⟩
abbrev cX8_neverNow : ByteArray := prog_10_method_82_code
def yX8_neverNow : MethodName := ⟨RX8, "neverNow", "()I"⟩
abbrev cX8_never : ByteArray := prog_10_method_83_code
def yX8_never : MethodName := ⟨RX8, "never", "()I"⟩
abbrev cX8_rowOf : ByteArray := prog_10_method_84_code
def yX8_rowOf : MethodName := ⟨RX8, "rowOf", "(I)J"⟩
abbrev cX8_draughtsOf : ByteArray := prog_10_method_85_code
def yX8_draughtsOf : MethodName := ⟨RX8, "draughtsOf", "(I)I"⟩
abbrev cX8_draughts : ByteArray := prog_10_method_86_code
def yX8_draughts : MethodName := ⟨RX8, "draughts", "(I)I"⟩
abbrev cX8_gradeOf : ByteArray := prog_10_method_87_code
def yX8_gradeOf : MethodName := ⟨RX8, "gradeOf", "(I)I"⟩
abbrev cX8_grade : ByteArray := prog_10_method_88_code
def yX8_grade : MethodName := ⟨RX8, "grade", "(I)I"⟩
abbrev cX8_alike : ByteArray := prog_10_method_89_code
def yX8_alike : MethodName := ⟨RX8, "alike", "(II)I"⟩
abbrev cX8_askOf : ByteArray := prog_10_method_90_code
def yX8_askOf : MethodName := ⟨RX8, "askOf", "(I)I"⟩
abbrev cX8_ask : ByteArray := prog_10_method_91_code
def yX8_ask : MethodName := ⟨RX8, "ask", "(I)I"⟩
abbrev cX8_chanceOf : ByteArray := prog_10_method_92_code
def yX8_chanceOf : MethodName := ⟨RX8, "chanceOf", "(III)J"⟩
abbrev cX8_chance : ByteArray := prog_10_method_93_code
def yX8_chance : MethodName := ⟨RX8, "chance", "(III)J"⟩
abbrev cX8_lot : ByteArray := prog_10_method_94_code
def yX8_lot : MethodName := ⟨RX8, "lot", "(I)I"⟩
abbrev cX8_seasonsOf : ByteArray := prog_10_method_95_code
def yX8_seasonsOf : MethodName := ⟨RX8, "seasonsOf", "(III)I"⟩
abbrev cX8_seasons : ByteArray := prog_10_method_96_code
def yX8_seasons : MethodName := ⟨RX8, "seasons", "(III)I"⟩
abbrev cX8_write : ByteArray := prog_10_method_97_code
def yX8_write : MethodName := ⟨RX8, "write", "(II)I"⟩
abbrev cX8_count : ByteArray := prog_10_method_98_code
def yX8_count : MethodName := ⟨RX8, "count", "(I)I"⟩
abbrev cX8_tellsSpan : ByteArray := prog_10_method_99_code
def yX8_tellsSpan : MethodName := ⟨RX8, "tellsSpan", "(JI)J"⟩
abbrev cX8_tellsMinute : ByteArray := prog_10_method_100_code
def yX8_tellsMinute : MethodName := ⟨RX8, "tellsMinute", "(JII)J"⟩
abbrev cX8_tellsLog : ByteArray := prog_10_method_101_code
def yX8_tellsLog : MethodName := ⟨RX8, "tellsLog", "(JI)J"⟩
abbrev cX8_digest : ByteArray := prog_10_method_102_code
def yX8_digest : MethodName := ⟨RX8, "digest", "()J"⟩
def RJ6 : String := "java/lang/Integer"
def TJ6 : u_T := fun k => match k with
  | _ => ("", "", "", false)
def tyJ6 : Nat → FieldType := fun k => match k with
  | _ => .int
abbrev wsJ60 : List Cond := u_ws RJ6 TJ6 0
theorem nmJ6 : ∀ a, a < 0 → ∀ b, b < 0 → a ≠ b → (TJ6 a).2.1 ≠ (TJ6 b).2.1 := by decide +kernel
theorem tyJ6_ok : ∀ k, k < 0 → parseFieldDescriptor (TJ6 k).2.2.1 = some (tyJ6 k) := by decide +kernel
abbrev cJ6_bitCount_0f7a4 : ByteArray := prog_11_method_49_code
def yJ6_bitCount_0f7a4 : MethodName := ⟨RJ6, "bitCount", "(I)I"⟩
def RJ9 : String := "java/lang/Math"
def TJ9 : u_T := fun k => match k with
  | _ => ("", "", "", false)
def tyJ9 : Nat → FieldType := fun k => match k with
  | _ => .int
abbrev wsJ90 : List Cond := u_ws RJ9 TJ9 0
theorem nmJ9 : ∀ a, a < 0 → ∀ b, b < 0 → a ≠ b → (TJ9 a).2.1 ≠ (TJ9 b).2.1 := by decide +kernel
theorem tyJ9_ok : ∀ k, k < 0 → parseFieldDescriptor (TJ9 k).2.2.1 = some (tyJ9 k) := by decide +kernel
abbrev cJ9_max_7cf53 : ByteArray := prog_12_method_65_code
def yJ9_max_7cf53 : MethodName := ⟨RJ9, "max", "(II)I"⟩
abbrev cJ9_min_7cf53 : ByteArray := prog_12_method_69_code
def yJ9_min_7cf53 : MethodName := ⟨RJ9, "min", "(II)I"⟩
def RJ10 : String := "java/lang/System"
def TJ10 : u_T := fun k => match k with
  | _ => ("", "", "", false)
def tyJ10 : Nat → FieldType := fun k => match k with
  | _ => .int
abbrev wsJ100 : List Cond := u_ws RJ10 TJ10 0
theorem nmJ10 : ∀ a, a < 0 → ∀ b, b < 0 → a ≠ b → (TJ10 a).2.1 ≠ (TJ10 b).2.1 := by decide +kernel
theorem tyJ10_ok : ∀ k, k < 0 → parseFieldDescriptor (TJ10 k).2.2.1 = some (tyJ10 k) := by decide +kernel
def RL : String := "LogFlumeLaw"
abbrev cL_law : ByteArray := code
def yL_law : MethodName := ⟨RL, "law", "([I)Z"⟩
abbrev vwCl : List vw_C := [(RX0, TX0, 6), (RX1, TX1, 4), (RX2, TX2, 3), (RX3, TX3, 4), (RX4, TX4, 2), (RX5, TX5, 6), (RX6, TX6, 3), (RX7, TX7, 17), (RX8, TX8, 27)]
end
section
/-! AN INTERPRETER of the bytecode over a picture of the heap: a list of cells, in which a reference is a place in the list (script and static table: .retAddr 0, 1). -/
abbrev iEnt : Type := Instr × Nat × Nat × Value × Nat
abbrev iMeth : Type := MethodName × ByteArray × Nat × Option FieldType × Nat × Nat × List Nat × List (List (Option iEnt))
abbrev iCfg : Type := Nat × List (Nat × Value) × List Value × List va_E
abbrev iOut : Type := iCfg ⊕ ((Nat × List Value × iCfg) ⊕ Option Value)
abbrev iExtT : Type := Nat → Option (Nat × (Nat → Int32))
abbrev iRes : Type := Option Value × List va_E
def iLg {α : Type} : List α → Nat → Option α
  | [], _ => none
  | a :: _, 0 => some a
  | _ :: l, n + 1 => iLg l n
theorem iLg_eq {α : Type} (l : List α) (n : Nat) : iLg l n = l[n]? := by
  induction l generalizing n with
  | nil => simp [iLg]
  | cons a l ih =>
    cases n with
    | zero => simp [iLg]
    | succ n => simp [iLg, ih]
def iFetch (t : List (List (Option iEnt))) (pc : Nat) : Option iEnt := match iLg t (pc / 16) with
  | some r => (match iLg r (pc % 16) with
    | some (some e) => some e
    | _ => none)
  | none => none
def iTake : Nat → List Value → List Value → Option (List Value × List Value)
  | 0, acc, S => some (acc, S)
  | n + 1, acc, v :: S => iTake n (v :: acc) S
  | _ + 1, _, [] => none
def iLget : List (Nat × Value) → Nat → Option Value
  | [], _ => none
  | (j, v) :: L, i => if j = i then some v else iLget L i
def iLfl {ρ : Type} (p : Nat × Value → Bool) : List (Nat × Value) → (List (Nat × Value) → ρ) → ρ
  | [], k => k []
  | q :: l, k => bif p q then iLfl p l (fun r => k (q :: r)) else iLfl p l k
theorem iLfl_eq {ρ : Type} (p : Nat × Value → Bool) (l : List (Nat × Value)) (k : List (Nat × Value) → ρ) : iLfl p l k = k (l.filter p) := by
  induction l generalizing k with
  | nil => rfl
  | cons q l ih =>
    cases h : p q with
    | true => simp [iLfl, h, ih, List.filter]
    | false => simp [iLfl, h, ih, List.filter]
def iTyF (ci : Nat) : Nat → FieldType := match ci with
  | 0 => tyX0 | 1 => tyX1 | 2 => tyX2 | 3 => tyX3 | 4 => tyX4 | 5 => tyX5 | 6 => tyX6 | 7 => tyX7 | _ => tyX8
def iFit (ty : FieldType) (v : Value) : Prop := match ty, v with
  | .int, .int _ => True
  | .boolean, .int x => x = 0 ∨ x = 1
  | .object _, .ref _ => True
  | .array _, .ref _ => True
  | _, _ => False
def iDfl (ci : Nat) : List Value := match ci with
  | 0 => [.null, .null, .null, .null, .int 0, .int 0]
  | 1 => [.null, .null, .null, .int 0]
  | 2 => [.null, .int 0, .int 0]
  | 3 => [.null, .null, .null, .int 0]
  | 4 => [.null, .int 0]
  | 5 => [.null, .null, .null, .null, .null, .int 0]
  | 6 => [.null, .null, .null]
  | 7 => (List.range 17).map (fun k => defaultValue (tyX7 k))
  | _ => (List.range 27).map (fun k => defaultValue (tyX8 k))
abbrev iNx (nx : Nat) (L : List (Nat × Value)) (S : List Value) (h : List va_E) : Option iOut := some (.inl (nx, L, S, h))
abbrev iP1 (i : Nat) : Nat × Value → Bool := fun q => !(q.1 == i) && !(q.1 + 1 == i && q.2.category == 2)
abbrev iP2 (i : Nat) : Nat × Value → Bool := fun q => !(q.1 == i) && (!(q.1 == i + 1) && !(q.1 + 1 == i && q.2.category == 2))
def iLdI (i nx : Nat) (L : List (Nat × Value)) (S : List Value) (h : List va_E) : Option iOut := match iLget L i with
  | some (.int x) => iNx nx L (.int x :: S) h
  | _ => none
def iLdL (i nx : Nat) (L : List (Nat × Value)) (S : List Value) (h : List va_E) : Option iOut := match iLget L i with
  | some (.long x) => iNx nx L (.long x :: S) h
  | _ => none
def iLdA (i nx : Nat) (L : List (Nat × Value)) (S : List Value) (h : List va_E) : Option iOut := match iLget L i with
  | some (.ref x) => iNx nx L (.ref x :: S) h
  | some (.retAddr 0) => iNx nx L (.retAddr 0 :: S) h
  | some (.retAddr 1) => iNx nx L (.retAddr 1 :: S) h
  | _ => none
def iStI (i nx : Nat) (L : List (Nat × Value)) (S : List Value) (h : List va_E) : Option iOut := match S with
  | .int x :: S' => iLfl (iP1 i) L (fun L' => iNx nx ((i, .int x) :: L') S' h)
  | _ => none
def iStL (i nx : Nat) (L : List (Nat × Value)) (S : List Value) (h : List va_E) : Option iOut := match S with
  | .long x :: S' => iLfl (iP2 i) L (fun L' => iNx nx ((i, .long x) :: L') S' h)
  | _ => none
def iStA (i nx : Nat) (L : List (Nat × Value)) (S : List Value) (h : List va_E) : Option iOut := match S with
  | .ref x :: S' => iLfl (iP1 i) L (fun L' => iNx nx ((i, .ref x) :: L') S' h)
  | .retAddr 0 :: S' => iLfl (iP1 i) L (fun L' => iNx nx ((i, .retAddr 0) :: L') S' h)
  | .retAddr 1 :: S' => iLfl (iP1 i) L (fun L' => iNx nx ((i, .retAddr 1) :: L') S' h)
  | _ => none
def iBin (g : Int32 → Int32 → Int32) (nx : Nat) (L : List (Nat × Value)) (S : List Value) (h : List va_E) : Option iOut := match S with
  | .int y :: .int x :: S' => iNx nx L (.int (g x y) :: S') h
  | _ => none
def iBil (g : Int64 → Int64 → Int64) (nx : Nat) (L : List (Nat × Value)) (S : List Value) (h : List va_E) : Option iOut := match S with
  | .long y :: .long x :: S' => iNx nx L (.long (g x y) :: S') h
  | _ => none
def iUn (g : Int32 → Int32) (nx : Nat) (L : List (Nat × Value)) (S : List Value) (h : List va_E) : Option iOut := match S with
  | .int x :: S' => iNx nx L (.int (g x) :: S') h
  | _ => none
def iCmp (cd : ClassFile.Cond) (x y : Int32) (A B : Option iOut) : Option iOut := match cd with
  | .eq => if x = y then A else B
  | .ne => if ¬ x = y then A else B
  | .lt => if x < y then A else B
  | .ge => if y ≤ x then A else B
  | .gt => if y < x then A else B
  | .le => if x ≤ y then A else B
def iGetf (nx res : Nat) (L : List (Nat × Value)) (S : List Value) (h : List va_E) : Option iOut := match S with
  | .ref a :: S' => (match iLg h a with
    | some (.inr (ci, fs)) => if ci = res / 64 then (match iLg fs (res % 64) with
      | some v => iNx nx L (v :: S') h
      | none => none) else none
    | _ => none)
  | _ => none
def iPutf (nx res : Nat) (L : List (Nat × Value)) (S : List Value) (h : List va_E) : Option iOut := match S with
  | v :: .ref a :: S' => (match iLg h a with
    | some (.inr (ci, fs)) => if ci = res / 64 then (if res % 64 < fs.length then (match iTyF ci (res % 64), v with
      | .int, .int x => iNx nx L S' (h.set a (.inr (ci, fs.set (res % 64) (.int x))))
      | .boolean, .int x => if x = 0 ∨ x = 1 then iNx nx L S' (h.set a (.inr (ci, fs.set (res % 64) (.int x)))) else none
      | .object _, .ref x => iNx nx L S' (h.set a (.inr (ci, fs.set (res % 64) (.ref x))))
      | .array _, .ref x => iNx nx L S' (h.set a (.inr (ci, fs.set (res % 64) (.ref x))))
      | _, _ => none) else none) else none
    | _ => none)
  | _ => none
def iAld (E : iExtT) (nx : Nat) (L : List (Nat × Value)) (S : List Value) (h : List va_E) : Option iOut := match S with
  | .int i :: .ref a :: S' => (match iLg h a with
    | some (.inl (0, n, .inl f)) => if ¬ (i < 0 ∨ n ≤ i.toNatClampNeg) then iNx nx L (.int (f i.toNatClampNeg) :: S') h else none
    | _ => none)
  | .int i :: .retAddr a :: S' => (match E a with
    | some (n, f) => if ¬ (i < 0 ∨ n ≤ i.toNatClampNeg) then iNx nx L (.int (f i.toNatClampNeg) :: S') h else none
    | none => none)
  | _ => none
def iAll (nx : Nat) (L : List (Nat × Value)) (S : List Value) (h : List va_E) : Option iOut := match S with
  | .int i :: .ref a :: S' => (match iLg h a with
    | some (.inl (1, n, .inr (.inl f))) => if ¬ (i < 0 ∨ n ≤ i.toNatClampNeg) then iNx nx L (.long (f i.toNatClampNeg) :: S') h else none
    | _ => none)
  | _ => none
def iAla (nx : Nat) (L : List (Nat × Value)) (S : List Value) (h : List va_E) : Option iOut := match S with
  | .int i :: .ref a :: S' => (match iLg h a with
    | some (.inl (2, n, .inr (.inr (.inr (.inr f))))) => if ¬ (i < 0 ∨ n ≤ i.toNatClampNeg) then iNx nx L (va_rf (f i.toNatClampNeg) :: S') h else none
    | some (.inl (3, n, .inr (.inr (.inr (.inr f))))) => if ¬ (i < 0 ∨ n ≤ i.toNatClampNeg) then iNx nx L (va_rf (f i.toNatClampNeg) :: S') h else none
    | _ => none)
  | _ => none
def iAst (nx : Nat) (L : List (Nat × Value)) (S : List Value) (h : List va_E) : Option iOut := match S with
  | .int x :: .int i :: .ref a :: S' => (match iLg h a with
    | some (.inl (0, n, .inl f)) => if ¬ (i < 0 ∨ n ≤ i.toNatClampNeg) then iNx nx L S' (h.set a (.inl (0, n, .inl (upd f i.toNatClampNeg x)))) else none
    | _ => none)
  | _ => none
def iAsl (nx : Nat) (L : List (Nat × Value)) (S : List Value) (h : List va_E) : Option iOut := match S with
  | .long x :: .int i :: .ref a :: S' => (match iLg h a with
    | some (.inl (1, n, .inr (.inl f))) => if ¬ (i < 0 ∨ n ≤ i.toNatClampNeg) then iNx nx L S' (h.set a (.inl (1, n, .inr (.inl (vp_updL f i.toNatClampNeg x))))) else none
    | _ => none)
  | _ => none
def iAsa (nx : Nat) (L : List (Nat × Value)) (S : List Value) (h : List va_E) : Option iOut := match S with
  | .ref x :: .int i :: .ref a :: S' => (match iLg h a, iLg h x with
    | some (.inl (2, n, .inr (.inr (.inr (.inr f))))), some (.inr (4, _)) => if ¬ (i < 0 ∨ n ≤ i.toNatClampNeg) then iNx nx L S' (h.set a (.inl (2, n, .inr (.inr (.inr (.inr (va_up f i.toNatClampNeg (some x)))))))) else none
    | some (.inl (3, n, .inr (.inr (.inr (.inr f))))), some (.inr (2, _)) => if ¬ (i < 0 ∨ n ≤ i.toNatClampNeg) then iNx nx L S' (h.set a (.inl (3, n, .inr (.inr (.inr (.inr (va_up f i.toNatClampNeg (some x)))))))) else none
    | _, _ => none)
  | _ => none
def iAlen (E : iExtT) (nx : Nat) (L : List (Nat × Value)) (S : List Value) (h : List va_E) : Option iOut := match S with
  | .ref a :: S' => (match iLg h a with
    | some (.inl (0, n, .inl _)) => iNx nx L (.int (Int32.ofNat n) :: S') h
    | some (.inl (1, n, .inr (.inl _))) => iNx nx L (.int (Int32.ofNat n) :: S') h
    | _ => none)
  | .retAddr a :: S' => (match E a with
    | some (n, _) => iNx nx L (.int (Int32.ofNat n) :: S') h
    | none => none)
  | _ => none
def iNewa (ty : ArrayType) (nx : Nat) (L : List (Nat × Value)) (S : List Value) (h : List va_E) : Option iOut := match ty, S with
  | .int, .int n :: S' => if ¬ n < 0 ∧ n.toNatClampNeg ≤ 1000 then iNx nx L (.ref h.length :: S') (h ++ [.inl (0, n.toNatClampNeg, .inl (fun _ => 0))]) else none
  | .long, .int n :: S' => if ¬ n < 0 ∧ n.toNatClampNeg ≤ 1000 then iNx nx L (.ref h.length :: S') (h ++ [.inl (1, n.toNatClampNeg, .inr (.inl (fun _ => 0)))]) else none
  | _, _ => none
def iNewq (nx res : Nat) (L : List (Nat × Value)) (S : List Value) (h : List va_E) : Option iOut := match S with
  | .int n :: S' => if ¬ n < 0 ∧ n.toNatClampNeg ≤ 1000 then iNx nx L (.ref h.length :: S') (h ++ [.inl (res, n.toNatClampNeg, .inr (.inr (.inr (.inr (fun _ => none)))))]) else none
  | _ => none
def iCat : List Value → Nat
  | [] => 0
  | v :: S => v.category + iCat S
def iCopy (nx : Nat) (L : List (Nat × Value)) (S : List Value) (h : List va_E) : Option iOut := match S with
  | .int n :: .int dp :: .ref a :: .int sp :: .ref a0 :: S' => bif !(Nat.ble (iCat S') 8) then none else (match iLg h a0, iLg h a with
    | some (.inl (0, n0, .inl f)), some (.inl (0, n1, .inl g)) => if (¬ sp < 0 ∧ ¬ dp < 0 ∧ ¬ n < 0) ∧ sp.toNatClampNeg + n.toNatClampNeg ≤ n0 ∧ dp.toNatClampNeg + n.toNatClampNeg ≤ n1 then iNx nx L S' (h.set a (.inl (0, n1, .inl (va_cpy f g sp.toNatClampNeg dp.toNatClampNeg n.toNatClampNeg)))) else none
    | _, _ => none)
  | _ => none
def iMax (nx : Nat) (L : List (Nat × Value)) (S : List Value) (h : List va_E) : Option iOut := match S with
  | .int y :: .int x :: S' => bif Nat.ble (iCat S') 8 then iNx nx L (.int (if x < y then y else x) :: S') h else none
  | _ => none
def iMin (nx : Nat) (L : List (Nat × Value)) (S : List Value) (h : List va_E) : Option iOut := match S with
  | .int y :: .int x :: S' => bif Nat.ble (iCat S') 8 then iNx nx L (.int (if y < x then y else x) :: S') h else none
  | _ => none
def iSw (pc : Nat) (dflt lo hi : Int) (offs : Array Int) (L : List (Nat × Value)) (S : List Value) (h : List va_E) : Option iOut := match S with
  | .int x :: S' => if x.toInt < lo ∨ hi < x.toInt then (if 0 ≤ (pc : Int) + dflt then iNx ((pc : Int) + dflt).toNat L S' h else none) else (match offs[(x.toInt - lo).toNat]? with
    | some off => if 0 ≤ (pc : Int) + off then iNx ((pc : Int) + off).toNat L S' h else none
    | none => none)
  | _ => none
def iCallS (k nx res : Nat) (L : List (Nat × Value)) (S : List Value) (h : List va_E) : Option iOut := match iTake k [] S with
  | some (as, S') => bif Nat.ble (iCat S') 8 then some (.inr (.inl (res, as, (nx, L, S', h)))) else none
  | none => none
def iCallI (k nx res : Nat) (L : List (Nat × Value)) (S : List Value) (h : List va_E) : Option iOut := match iTake k [] S with
  | some (.ref a :: as, S') => bif Nat.ble (iCat S') 8 then some (.inr (.inl (res, .ref a :: as, (nx, L, S', h)))) else none
  | _ => none
def iCallV (k kd nx res : Nat) (L : List (Nat × Value)) (S : List Value) (h : List va_E) : Option iOut := match iTake k [] S with
  | some (.ref a :: as, S') => (match iLg h a with
    | some (.inr (ci, _)) => bif Nat.beq (ci + 10) kd && Nat.ble (iCat S') 8 then some (.inr (.inl (res, .ref a :: as, (nx, L, S', h)))) else none
    | _ => none)
  | _ => none
def iOI (nx : Nat) (L : List (Nat × Value)) (S : List Value) (h : List va_E) : Option iOut := match S with
  | .ref _ :: S' => bif Nat.ble (iCat S') 8 then iNx nx L S' h else none
  | _ => none
/-- what an instruction does; np: how many values a call takes -/
def iEx (E : iExtT) (np nk : Nat → Nat) (ret : Option FieldType) (pc : Nat) (e : iEnt) (L : List (Nat × Value)) (S : List Value) (h : List va_E) : Option iOut := match e with
  | (ins, nx, res, val, _) => match ins with
    | .iconst _ => iNx nx L (val :: S) h
    | .bipush _ => iNx nx L (val :: S) h
    | .sipush _ => iNx nx L (val :: S) h
    | .lconst _ => iNx nx L (val :: S) h
    | .ldc _ => iNx nx L (val :: S) h
    | .ldc_w _ => iNx nx L (val :: S) h
    | .ldc2_w _ => iNx nx L (val :: S) h
    | .iload i => iLdI i nx L S h
    | .iload_n i => iLdI i.val nx L S h
    | .lload i => iLdL i nx L S h
    | .lload_n i => iLdL i.val nx L S h
    | .aload i => iLdA i nx L S h
    | .aload_n i => iLdA i.val nx L S h
    | .istore i => iStI i nx L S h
    | .istore_n i => iStI i.val nx L S h
    | .lstore i => iStL i nx L S h
    | .lstore_n i => iStL i.val nx L S h
    | .astore i => iStA i nx L S h
    | .astore_n i => iStA i.val nx L S h
    | .iinc i _ => (match iLget L i, val with
      | some (.int x), .int n => iLfl (iP1 i) L (fun L' => iNx nx ((i, .int (x + n)) :: L') S h)
      | _, _ => none)
    | .iadd => iBin (fun x y => x + y) nx L S h
    | .isub => iBin (fun x y => x - y) nx L S h
    | .imul => iBin (fun x y => x * y) nx L S h
    | .iand => iBin (fun x y => x &&& y) nx L S h
    | .ior => iBin (fun x y => x ||| y) nx L S h
    | .ixor => iBin (fun x y => x ^^^ y) nx L S h
    | .ishl => iBin (fun x y => x <<< (y &&& 31)) nx L S h
    | .ishr => iBin (fun x y => x >>> (y &&& 31)) nx L S h
    | .iushr => iBin (fun x y => (x.toUInt32 >>> (y.toUInt32 &&& Int32.toUInt32 31)).toInt32) nx L S h
    | .idiv => (match S with
      | .int y :: .int x :: S' => if ¬ y = 0 then iNx nx L (.int (x / y) :: S') h else none
      | _ => none)
    | .irem => (match S with
      | .int y :: .int x :: S' => if ¬ y = 0 then iNx nx L (.int (x - x / y * y) :: S') h else none
      | _ => none)
    | .ladd => iBil (fun x y => x + y) nx L S h
    | .lsub => iBil (fun x y => x - y) nx L S h
    | .lmul => iBil (fun x y => x * y) nx L S h
    | .lor => iBil (fun x y => x ||| y) nx L S h
    | .ldiv => (match S with
      | .long y :: .long x :: S' => if ¬ y = 0 then iNx nx L (.long (x / y) :: S') h else none
      | _ => none)
    | .lrem => (match S with
      | .long y :: .long x :: S' => if ¬ y = 0 then iNx nx L (.long (x - x / y * y) :: S') h else none
      | _ => none)
    | .lshl => (match S with
      | .int y :: .long x :: S' => iNx nx L (.long (x <<< (y.toInt64 &&& 63)) :: S') h
      | _ => none)
    | .lcmp => (match S with
      | .long y :: .long x :: S' => iNx nx L (.int (lg_cmp x y) :: S') h
      | _ => none)
    | .i2l => (match S with
      | .int x :: S' => iNx nx L (.long x.toInt64 :: S') h
      | _ => none)
    | .i2b => iUn (fun x => x.toInt8.toInt32) nx L S h
    | .i2s => iUn (fun x => x.toInt16.toInt32) nx L S h
    | .dup => (match S with
      | .int x :: S' => iNx nx L (.int x :: .int x :: S') h
      | .ref x :: S' => iNx nx L (.ref x :: .ref x :: S') h
      | _ => none)
    | .dup2 => (match S with
      | .int x :: .ref y :: S' => iNx nx L (.int x :: .ref y :: .int x :: .ref y :: S') h
      | _ => none)
    | .pop => (match S with
      | .int _ :: S' => iNx nx L S' h
      | .ref _ :: S' => iNx nx L S' h
      | _ => none)
    | .goto _ => iNx res L S h
    | .if_icmp cd _ => (match S with
      | .int y :: .int x :: S' => iCmp cd x y (iNx res L S' h) (iNx nx L S' h)
      | _ => none)
    | .ifCond cd _ => (match S with
      | .int x :: S' => iCmp cd x 0 (iNx res L S' h) (iNx nx L S' h)
      | _ => none)
    | .tableswitch dflt lo hi offs => iSw pc dflt lo hi offs L S h
    | .getfield _ => iGetf nx res L S h
    | .putfield _ => iPutf nx res L S h
    | .getstatic _ => iNx nx L (.retAddr 1 :: S) h
    | .iaload => iAld E nx L S h
    | .laload => iAll nx L S h
    | .aaload => iAla nx L S h
    | .iastore => iAst nx L S h
    | .lastore => iAsl nx L S h
    | .aastore => iAsa nx L S h
    | .arraylength => iAlen E nx L S h
    | .new _ => iNx nx L (.ref h.length :: S) (h ++ [.inr (res, iDfl res)])
    | .newarray ty => iNewa ty nx L S h
    | .anewarray _ => iNewq nx res L S h
    | .invokespecial _ => if res = 1000 then iOI nx L S h else iCallI (np res + 1) nx res L S h
    | .invokevirtual _ => iCallV (np res + 1) (nk res) nx res L S h
    | .invokestatic _ => if res = 1001 then iCopy nx L S h else if res = 1002 then iMax nx L S h else if res = 1003 then iMin nx L S h else iCallS (np res) nx res L S h
    | .ireturn => (match S, ret with
      | [.int x], some .int => some (.inr (.inr (some (.int x))))
      | [.int x], some .boolean => if x = 0 ∨ x = 1 then some (.inr (.inr (some (.int x)))) else none
      | _, _ => none)
    | .lreturn => (match S, ret with
      | [.long x], some .long => some (.inr (.inr (some (.long x))))
      | _, _ => none)
    | .return_ => (match S, ret with
      | [], none => some (.inr (.inr none))
      | _, _ => none)
    | _ => none
def iNp (P : Nat → Option iMeth) (n : Nat) : Nat := match P n with
  | some C => C.2.2.2.2.1
  | none => 0
def iNk (P : Nat → Option iMeth) (n : Nat) : Nat := match P n with
  | some C => C.2.2.2.2.2.1
  | none => 0
def iStep (E : iExtT) (P : Nat → Option iMeth) (M : iMeth) (c : iCfg) : Option iOut := match c with
  | (pc, L, S, h) => match iFetch M.2.2.2.2.2.2.2 pc with
    | some e => iEx E (iNp P) (iNk P) M.2.2.2.1 pc e L S h
    | none => none
def iRun (E : iExtT) (P : Nat → Option iMeth) : Nat → Nat → iMeth → iCfg → Option iRes
  | 0, _, _, _ => none
  | f + 1, d, M, c => match iStep E P M c with
    | none => none
    | some (.inl c') => iRun E P f d M c'
    | some (.inr (.inr r)) => some (r, c.2.2.2)
    | some (.inr (.inl (n, as, c'))) => match d with
      | 0 => none
      | d' + 1 => match P n with
        | none => none
        | some C => bif Nat.ble (iCat as) C.2.2.1 then (match iRun E P f d' C (0, lv_args 0 as, [], c'.2.2.2) with
          | none => none
          | some (r, h') => iRun E P f (d' + 1) M (c'.1, c'.2.1, r.toList ++ c'.2.2.1, h')) else none
end
section
def mX0_init : iMeth := (yX0_init, cX0_init, 1, none, 0, 2, [196, 78, 195, 0], [
  [some (.aload_n 0, 1, 0, .null, 0), some (.invokespecial 3, 4, 1000, .null, 197), none, none, some (.aload_n 0, 5, 0, .null, 0), some (.sipush 192, 8, 0, .int 192, 0), none, none, some (.newarray .int, 10, 0, .null, 0), none, some (.putfield 9, 13, 0, .null, 198), none, none, some (.aload_n 0, 14, 0, .null, 0), some (.sipush 192, 17, 0, .int 192, 0), none],
  [none, some (.newarray .int, 19, 0, .null, 0), none, some (.putfield 15, 22, 1, .null, 200), none, none, some (.aload_n 0, 23, 0, .null, 0), some (.bipush 24, 25, 0, .int 24, 0), none, some (.newarray .int, 27, 0, .null, 0), none, some (.putfield 18, 30, 2, .null, 202), none, none, some (.aload_n 0, 31, 0, .null, 0), some (.bipush 8, 33, 0, .int 8, 0)],
  [none, some (.newarray .int, 35, 0, .null, 0), none, some (.putfield 21, 38, 3, .null, 203), none, none, some (.aload_n 0, 39, 0, .null, 0), some (.iconst 0, 40, 0, .int 0, 0), some (.putfield 24, 43, 4, .null, 204), none, none, some (.aload_n 0, 44, 0, .null, 0), some (.iconst 0, 45, 0, .int 0, 0), some (.putfield 28, 48, 5, .null, 205), none, none],
  [some (.return_, 49, 0, .null, 0)]])
def mX0_run : iMeth := (yX0_run, cX0_run, 10, none, 4, 10, [427, 78, 425, 426], [
  [some (.aload_n 3, 1, 0, .null, 0), some (.iconst 0, 2, 0, .int 0, 0), some (.iload 4, 4, 0, .null, 0), none, some (.aload_n 0, 5, 0, .null, 0), some (.getfield 18, 8, 2, .null, 202), none, none, some (.invokevirtual 31, 11, 16, .null, 428), none, none, some (.aload_n 0, 12, 0, .null, 0), some (.iconst 0, 13, 0, .int 0, 0), some (.putfield 24, 16, 4, .null, 204), none, none],
  [some (.aload_n 0, 17, 0, .null, 0), some (.aload_n 1, 18, 0, .null, 0), some (.invokevirtual 37, 21, 35, .null, 429), none, none, some (.putfield 28, 24, 5, .null, 205), none, none, some (.iconst 0, 25, 0, .int 0, 0), some (.istore 5, 27, 0, .null, 0), none, some (.iload 5, 29, 0, .null, 0), none, some (.bipush 24, 31, 0, .int 24, 0), none, some (.if_icmp .ge 122, 34, 153, .null, 0)],
  [none, none, some (.aload_n 0, 35, 0, .null, 0), some (.aload_n 1, 36, 0, .null, 0), some (.iload 5, 38, 0, .null, 0), none, some (.invokevirtual 43, 41, 2, .null, 433), none, none, some (.bipush 17, 43, 0, .int 17, 0), none, some (.istore 6, 45, 0, .null, 0), none, some (.iconst 0, 46, 0, .int 0, 0), some (.istore 7, 48, 0, .null, 0), none],
  [some (.iload 7, 50, 0, .null, 0), none, some (.aload_n 0, 51, 0, .null, 0), some (.getfield 24, 54, 4, .null, 204), none, none, some (.if_icmp .ge 81, 57, 135, .null, 0), none, none, some (.aload_n 0, 58, 0, .null, 0), some (.getfield 21, 61, 3, .null, 203), none, none, some (.iload 7, 63, 0, .null, 0), none, some (.iaload, 64, 0, .null, 0)],
  [some (.istore 8, 66, 0, .null, 0), none, some (.aload_n 0, 67, 0, .null, 0), some (.getfield 9, 70, 0, .null, 198), none, none, some (.iload 5, 72, 0, .null, 0), none, some (.bipush 8, 74, 0, .int 8, 0), none, some (.imul, 75, 0, .null, 0), some (.iload 8, 77, 0, .null, 0), none, some (.iadd, 78, 0, .null, 0), some (.iaload, 79, 0, .null, 0), some (.bipush 16, 81, 0, .int 16, 0)],
  [none, some (.invokestatic 47, 84, 77, .null, 437), none, none, some (.ifCond .eq 45, 87, 129, .null, 0), none, none, some (.aload_n 0, 88, 0, .null, 0), some (.aload_n 1, 89, 0, .null, 0), some (.aload_n 2, 90, 0, .null, 0), some (.iload 5, 92, 0, .null, 0), none, some (.iload 8, 94, 0, .null, 0), none, some (.iload 6, 96, 0, .null, 0), none],
  [some (.invokevirtual 51, 99, 3, .null, 438), none, none, some (.istore 9, 101, 0, .null, 0), none, some (.iload 9, 103, 0, .null, 0), none, some (.bipush 16, 105, 0, .int 16, 0), none, some (.if_icmp .ne 8, 108, 113, .null, 0), none, none, some (.iload 6, 110, 0, .null, 0), none, some (.goto 17, 113, 127, .null, 0), none],
  [none, some (.iload 9, 115, 0, .null, 0), none, some (.aload_n 1, 116, 0, .null, 0), some (.getfield 55, 119, 324, .null, 113), none, none, some (.iload 8, 121, 0, .null, 0), none, some (.iaload, 122, 0, .null, 0), some (.isub, 123, 0, .null, 0), some (.iconst 0, 124, 0, .int 0, 0), some (.invokestatic 58, 127, 1002, .null, 442), none, none, some (.istore 6, 129, 0, .null, 0)],
  [none, some (.iinc 7 1, 132, 0, .int 1, 0), none, none, some (.goto (-84), 135, 48, .null, 0), none, none, some (.iload 6, 137, 0, .null, 0), none, some (.ifCond .le 10, 140, 147, .null, 0), none, none, some (.aload_n 0, 141, 0, .null, 0), some (.aload_n 1, 142, 0, .null, 0), some (.iload 5, 144, 0, .null, 0), none],
  [some (.invokevirtual 64, 147, 4, .null, 443), none, none, some (.iinc 5 1, 150, 0, .int 1, 0), none, none, some (.goto (-123), 153, 27, .null, 0), none, none, some (.return_, 154, 0, .null, 0)]])
def mX0_beginMinute : iMeth := (yX0_beginMinute, cX0_beginMinute, 4, none, 2, 10, [436, 78, 435, 6], [
  [some (.iconst 0, 1, 0, .int 0, 0), some (.istore_n 3, 2, 0, .null, 0), some (.iload_n 3, 3, 0, .null, 0), some (.aload_n 1, 4, 0, .null, 0), some (.getfield 67, 7, 325, .null, 116), none, none, some (.if_icmp .ge 53, 10, 60, .null, 0), none, none, some (.aload_n 0, 11, 0, .null, 0), some (.getfield 9, 14, 0, .null, 198), none, none, some (.iload_n 2, 15, 0, .null, 0), some (.bipush 8, 17, 0, .int 8, 0)],
  [none, some (.imul, 18, 0, .null, 0), some (.iload_n 3, 19, 0, .null, 0), some (.iadd, 20, 0, .null, 0), some (.iload_n 2, 21, 0, .null, 0), some (.ifCond .le 19, 24, 40, .null, 0), none, none, some (.aload_n 0, 25, 0, .null, 0), some (.getfield 9, 28, 0, .null, 198), none, none, some (.iload_n 2, 29, 0, .null, 0), some (.iconst 1, 30, 0, .int 1, 0), some (.isub, 31, 0, .null, 0), some (.bipush 8, 33, 0, .int 8, 0)],
  [none, some (.imul, 34, 0, .null, 0), some (.iload_n 3, 35, 0, .null, 0), some (.iadd, 36, 0, .null, 0), some (.iaload, 37, 0, .null, 0), some (.goto 4, 40, 41, .null, 0), none, none, some (.iconst (-1), 41, 0, .int (-1), 0), some (.iastore, 42, 0, .null, 0), some (.aload_n 0, 43, 0, .null, 0), some (.getfield 15, 46, 1, .null, 200), none, none, some (.iload_n 2, 47, 0, .null, 0), some (.bipush 8, 49, 0, .int 8, 0)],
  [none, some (.imul, 50, 0, .null, 0), some (.iload_n 3, 51, 0, .null, 0), some (.iadd, 52, 0, .null, 0), some (.iconst 0, 53, 0, .int 0, 0), some (.iastore, 54, 0, .null, 0), some (.iinc 3 1, 57, 0, .int 1, 0), none, none, some (.goto (-55), 60, 2, .null, 0), none, none, some (.return_, 61, 0, .null, 0)]])
def mX0_move : iMeth := (yX0_move, cX0_move, 11, (some .int), 5, 10, [441, 78, 440, 7], [
  [some (.iload_n 3, 1, 0, .null, 0), some (.bipush 8, 3, 0, .int 8, 0), none, some (.imul, 4, 0, .null, 0), some (.iload 4, 6, 0, .null, 0), none, some (.iadd, 7, 0, .null, 0), some (.istore 6, 9, 0, .null, 0), none, some (.aload_n 0, 10, 0, .null, 0), some (.getfield 9, 13, 0, .null, 198), none, none, some (.iload 6, 15, 0, .null, 0), none, some (.iaload, 16, 0, .null, 0)],
  [some (.istore 7, 18, 0, .null, 0), none, some (.aload_n 0, 19, 0, .null, 0), some (.getfield 18, 22, 2, .null, 202), none, none, some (.iload_n 3, 23, 0, .null, 0), some (.iaload, 24, 0, .null, 0), some (.iload 4, 26, 0, .null, 0), none, some (.ishr, 27, 0, .null, 0), some (.iconst 1, 28, 0, .int 1, 0), some (.iand, 29, 0, .null, 0), some (.iconst 1, 30, 0, .int 1, 0), some (.if_icmp .ne 7, 33, 37, .null, 0), none],
  [none, some (.iconst 1, 34, 0, .int 1, 0), some (.goto 4, 37, 38, .null, 0), none, none, some (.iconst 0, 38, 0, .int 0, 0), some (.istore 8, 40, 0, .null, 0), none, some (.aload_n 1, 41, 0, .null, 0), some (.getfield 70, 44, 320, .null, 102), none, none, some (.iload 7, 46, 0, .null, 0), none, some (.iaload, 47, 0, .null, 0), some (.iload 8, 49, 0, .null, 0)],
  [none, some (.ifCond .eq 7, 52, 56, .null, 0), none, none, some (.iconst 1, 53, 0, .int 1, 0), some (.goto 4, 56, 57, .null, 0), none, none, some (.iconst 0, 57, 0, .int 0, 0), some (.iadd, 58, 0, .null, 0), some (.istore 9, 60, 0, .null, 0), none, some (.iconst 0, 61, 0, .int 0, 0), some (.istore 10, 63, 0, .null, 0), none, some (.iload 10, 65, 0, .null, 0)],
  [none, some (.iload 9, 67, 0, .null, 0), none, some (.if_icmp .ge 77, 70, 144, .null, 0), none, none, some (.iload 7, 72, 0, .null, 0), none, some (.bipush 16, 74, 0, .int 16, 0), none, some (.if_icmp .ge 70, 77, 144, .null, 0), none, none, some (.iload 8, 79, 0, .null, 0), none, some (.ifCond .ne 36, 82, 115, .null, 0)],
  [none, none, some (.aload_n 2, 83, 0, .null, 0), some (.getfield 73, 86, 384, .null, 181), none, none, some (.iload_n 3, 87, 0, .null, 0), some (.bipush 16, 89, 0, .int 16, 0), none, some (.imul, 90, 0, .null, 0), some (.iload 7, 92, 0, .null, 0), none, some (.iadd, 93, 0, .null, 0), some (.iaload, 94, 0, .null, 0), some (.aload_n 1, 95, 0, .null, 0), some (.getfield 78, 98, 323, .null, 110)],
  [none, none, some (.iload 4, 100, 0, .null, 0), none, some (.iaload, 101, 0, .null, 0), some (.if_icmp .ge 14, 104, 115, .null, 0), none, none, some (.aload_n 0, 105, 0, .null, 0), some (.getfield 15, 108, 1, .null, 200), none, none, some (.iload 6, 110, 0, .null, 0), none, some (.iconst 1, 111, 0, .int 1, 0), some (.iastore, 112, 0, .null, 0)],
  [some (.goto 32, 115, 144, .null, 0), none, none, some (.iload 7, 117, 0, .null, 0), none, some (.iconst 1, 118, 0, .int 1, 0), some (.iadd, 119, 0, .null, 0), some (.iload 5, 121, 0, .null, 0), none, some (.if_icmp .lt 14, 124, 135, .null, 0), none, none, some (.aload_n 0, 125, 0, .null, 0), some (.getfield 15, 128, 1, .null, 200), none, none],
  [some (.iload 6, 130, 0, .null, 0), none, some (.iconst 2, 131, 0, .int 2, 0), some (.iastore, 132, 0, .null, 0), some (.goto 12, 135, 144, .null, 0), none, none, some (.iinc 7 1, 138, 0, .int 1, 0), none, none, some (.iinc 10 1, 141, 0, .int 1, 0), none, none, some (.goto (-78), 144, 63, .null, 0), none, none],
  [some (.aload_n 0, 145, 0, .null, 0), some (.getfield 9, 148, 0, .null, 198), none, none, some (.iload 6, 150, 0, .null, 0), none, some (.iload 7, 152, 0, .null, 0), none, some (.iastore, 153, 0, .null, 0), some (.iload 7, 155, 0, .null, 0), none, some (.ireturn, 156, 0, .null, 0)]])
def mX0_putIn : iMeth := (yX0_putIn, cX0_putIn, 4, none, 2, 10, [446, 78, 445, 8], [
  [some (.iconst 0, 1, 0, .int 0, 0), some (.istore_n 3, 2, 0, .null, 0), some (.iload_n 3, 3, 0, .null, 0), some (.aload_n 1, 4, 0, .null, 0), some (.getfield 67, 7, 325, .null, 116), none, none, some (.if_icmp .ge 87, 10, 94, .null, 0), none, none, some (.aload_n 0, 11, 0, .null, 0), some (.getfield 28, 14, 5, .null, 205), none, none, some (.iload_n 3, 15, 0, .null, 0), some (.ishr, 16, 0, .null, 0)],
  [some (.iconst 1, 17, 0, .int 1, 0), some (.iand, 18, 0, .null, 0), some (.iconst 1, 19, 0, .int 1, 0), some (.if_icmp .ne 69, 22, 88, .null, 0), none, none, some (.aload_n 1, 23, 0, .null, 0), some (.getfield 81, 26, 322, .null, 107), none, none, some (.iload_n 3, 27, 0, .null, 0), some (.iaload, 28, 0, .null, 0), some (.iload_n 2, 29, 0, .null, 0), some (.if_icmp .gt 59, 32, 88, .null, 0), none, none],
  [some (.aload_n 0, 33, 0, .null, 0), some (.getfield 24, 36, 4, .null, 204), none, none, some (.bipush 8, 38, 0, .int 8, 0), none, some (.if_icmp .ge 50, 41, 88, .null, 0), none, none, some (.aload_n 0, 42, 0, .null, 0), some (.dup, 43, 0, .null, 0), some (.getfield 28, 46, 5, .null, 205), none, none, some (.iconst 1, 47, 0, .int 1, 0), some (.iload_n 3, 48, 0, .null, 0)],
  [some (.ishl, 49, 0, .null, 0), some (.iconst (-1), 50, 0, .int (-1), 0), some (.ixor, 51, 0, .null, 0), some (.iand, 52, 0, .null, 0), some (.putfield 28, 55, 5, .null, 205), none, none, some (.aload_n 0, 56, 0, .null, 0), some (.getfield 21, 59, 3, .null, 203), none, none, some (.aload_n 0, 60, 0, .null, 0), some (.getfield 24, 63, 4, .null, 204), none, none, some (.iload_n 3, 64, 0, .null, 0)],
  [some (.iastore, 65, 0, .null, 0), some (.aload_n 0, 66, 0, .null, 0), some (.dup, 67, 0, .null, 0), some (.getfield 24, 70, 4, .null, 204), none, none, some (.iconst 1, 71, 0, .int 1, 0), some (.iadd, 72, 0, .null, 0), some (.putfield 24, 75, 4, .null, 204), none, none, some (.aload_n 0, 76, 0, .null, 0), some (.getfield 9, 79, 0, .null, 198), none, none, some (.iload_n 2, 80, 0, .null, 0)],
  [some (.bipush 8, 82, 0, .int 8, 0), none, some (.imul, 83, 0, .null, 0), some (.iload_n 3, 84, 0, .null, 0), some (.iadd, 85, 0, .null, 0), some (.iconst 0, 86, 0, .int 0, 0), some (.iastore, 87, 0, .null, 0), some (.return_, 88, 0, .null, 0), some (.iinc 3 1, 91, 0, .int 1, 0), none, none, some (.goto (-89), 94, 2, .null, 0), none, none, some (.return_, 95, 0, .null, 0)]])
def mX0_lierIn : iMeth := (yX0_lierIn, cX0_lierIn, 6, (some .int), 3, 10, [450, 78, 448, 449], [
  [some (.iconst 0, 1, 0, .int 0, 0), some (.istore 4, 3, 0, .null, 0), none, some (.iload 4, 5, 0, .null, 0), none, some (.aload_n 1, 6, 0, .null, 0), some (.getfield 67, 9, 325, .null, 116), none, none, some (.if_icmp .ge 53, 12, 62, .null, 0), none, none, some (.aload_n 0, 13, 0, .null, 0), some (.getfield 9, 16, 0, .null, 198), none, none],
  [some (.iload_n 2, 17, 0, .null, 0), some (.bipush 8, 19, 0, .int 8, 0), none, some (.imul, 20, 0, .null, 0), some (.iload 4, 22, 0, .null, 0), none, some (.iadd, 23, 0, .null, 0), some (.iaload, 24, 0, .null, 0), some (.istore 5, 26, 0, .null, 0), none, some (.iload 5, 28, 0, .null, 0), none, some (.bipush 16, 30, 0, .int 16, 0), none, some (.if_icmp .eq 26, 33, 56, .null, 0), none],
  [none, some (.iload 5, 35, 0, .null, 0), none, some (.iload_n 3, 36, 0, .null, 0), some (.if_icmp .lt 20, 39, 56, .null, 0), none, none, some (.iload 5, 41, 0, .null, 0), none, some (.aload_n 1, 42, 0, .null, 0), some (.getfield 55, 45, 324, .null, 113), none, none, some (.iload 4, 47, 0, .null, 0), none, some (.iaload, 48, 0, .null, 0)],
  [some (.isub, 49, 0, .null, 0), some (.iload_n 3, 50, 0, .null, 0), some (.if_icmp .gt 6, 53, 56, .null, 0), none, none, some (.iload 4, 55, 0, .null, 0), none, some (.ireturn, 56, 0, .null, 0), some (.iinc 4 1, 59, 0, .int 1, 0), none, none, some (.goto (-56), 62, 3, .null, 0), none, none, some (.iconst (-1), 63, 0, .int (-1), 0), some (.ireturn, 64, 0, .null, 0)]])
def mX0_afloatOrLying : iMeth := (yX0_afloatOrLying, cX0_afloatOrLying, 6, (some .int), 2, 10, [466, 78, 464, 465], [
  [some (.iconst 0, 1, 0, .int 0, 0), some (.istore_n 3, 2, 0, .null, 0), some (.iconst 0, 3, 0, .int 0, 0), some (.istore 4, 5, 0, .null, 0), none, some (.iload 4, 7, 0, .null, 0), none, some (.aload_n 1, 8, 0, .null, 0), some (.getfield 67, 11, 325, .null, 116), none, none, some (.if_icmp .ge 39, 14, 50, .null, 0), none, none, some (.aload_n 0, 15, 0, .null, 0), some (.getfield 9, 18, 0, .null, 198)],
  [none, none, some (.iload_n 2, 19, 0, .null, 0), some (.bipush 8, 21, 0, .int 8, 0), none, some (.imul, 22, 0, .null, 0), some (.iload 4, 24, 0, .null, 0), none, some (.iadd, 25, 0, .null, 0), some (.iaload, 26, 0, .null, 0), some (.istore 5, 28, 0, .null, 0), none, some (.iload 5, 30, 0, .null, 0), none, some (.iconst (-1), 31, 0, .int (-1), 0), some (.if_icmp .eq 13, 34, 44, .null, 0)],
  [none, none, some (.iload 5, 36, 0, .null, 0), none, some (.bipush 16, 38, 0, .int 16, 0), none, some (.if_icmp .eq 6, 41, 44, .null, 0), none, none, some (.iinc 3 1, 44, 0, .int 1, 0), none, none, some (.iinc 4 1, 47, 0, .int 1, 0), none, none, some (.goto (-42), 50, 5, .null, 0)],
  [none, none, some (.iload_n 3, 51, 0, .null, 0), some (.ireturn, 52, 0, .null, 0)]])
def mX0_minuteOut : iMeth := (yX0_minuteOut, cX0_minuteOut, 3, (some .int), 1, 10, [474, 78, 472, 473], [
  [some (.iconst 0, 1, 0, .int 0, 0), some (.istore_n 2, 2, 0, .null, 0), some (.iload_n 2, 3, 0, .null, 0), some (.bipush 24, 5, 0, .int 24, 0), none, some (.if_icmp .ge 27, 8, 32, .null, 0), none, none, some (.aload_n 0, 9, 0, .null, 0), some (.getfield 9, 12, 0, .null, 198), none, none, some (.iload_n 2, 13, 0, .null, 0), some (.bipush 8, 15, 0, .int 8, 0), none, some (.imul, 16, 0, .null, 0)],
  [some (.iload_n 1, 17, 0, .null, 0), some (.iadd, 18, 0, .null, 0), some (.iaload, 19, 0, .null, 0), some (.bipush 16, 21, 0, .int 16, 0), none, some (.if_icmp .ne 5, 24, 26, .null, 0), none, none, some (.iload_n 2, 25, 0, .null, 0), some (.ireturn, 26, 0, .null, 0), some (.iinc 2 1, 29, 0, .int 1, 0), none, none, some (.goto (-27), 32, 2, .null, 0), none, none],
  [some (.iconst (-1), 33, 0, .int (-1), 0), some (.ireturn, 34, 0, .null, 0)]])
def mX0_minutesIn : iMeth := (yX0_minutesIn, cX0_minutesIn, 5, (some .int), 2, 10, [478, 78, 476, 477], [
  [some (.iconst 0, 1, 0, .int 0, 0), some (.istore_n 3, 2, 0, .null, 0), some (.iconst 0, 3, 0, .int 0, 0), some (.istore 4, 5, 0, .null, 0), none, some (.iload 4, 7, 0, .null, 0), none, some (.bipush 24, 9, 0, .int 24, 0), none, some (.if_icmp .ge 28, 12, 37, .null, 0), none, none, some (.aload_n 0, 13, 0, .null, 0), some (.getfield 15, 16, 1, .null, 200), none, none],
  [some (.iload 4, 18, 0, .null, 0), none, some (.bipush 8, 20, 0, .int 8, 0), none, some (.imul, 21, 0, .null, 0), some (.iload_n 1, 22, 0, .null, 0), some (.iadd, 23, 0, .null, 0), some (.iaload, 24, 0, .null, 0), some (.iload_n 2, 25, 0, .null, 0), some (.if_icmp .ne 6, 28, 31, .null, 0), none, none, some (.iinc 3 1, 31, 0, .int 1, 0), none, none, some (.iinc 4 1, 34, 0, .int 1, 0)],
  [none, none, some (.goto (-29), 37, 5, .null, 0), none, none, some (.iload_n 3, 38, 0, .null, 0), some (.ireturn, 39, 0, .null, 0)]])
def mX0_minutesOfAll : iMeth := (yX0_minutesOfAll, cX0_minutesOfAll, 5, (some .int), 2, 10, [620, 78, 618, 619], [
  [some (.iconst 0, 1, 0, .int 0, 0), some (.istore_n 3, 2, 0, .null, 0), some (.iconst 0, 3, 0, .int 0, 0), some (.istore 4, 5, 0, .null, 0), none, some (.iload 4, 7, 0, .null, 0), none, some (.aload_n 1, 8, 0, .null, 0), some (.getfield 67, 11, 325, .null, 116), none, none, some (.if_icmp .ge 19, 14, 30, .null, 0), none, none, some (.iload_n 3, 15, 0, .null, 0), some (.aload_n 0, 16, 0, .null, 0)],
  [some (.iload 4, 18, 0, .null, 0), none, some (.iload_n 2, 19, 0, .null, 0), some (.invokevirtual 84, 22, 8, .null, 621), none, none, some (.iadd, 23, 0, .null, 0), some (.istore_n 3, 24, 0, .null, 0), some (.iinc 4 1, 27, 0, .int 1, 0), none, none, some (.goto (-22), 30, 5, .null, 0), none, none, some (.iload_n 3, 31, 0, .null, 0), some (.ireturn, 32, 0, .null, 0)]])
def mX0_outBits : iMeth := (yX0_outBits, cX0_outBits, 4, (some .int), 1, 10, [496, 78, 494, 495], [
  [some (.iconst 0, 1, 0, .int 0, 0), some (.istore_n 2, 2, 0, .null, 0), some (.iconst 0, 3, 0, .int 0, 0), some (.istore_n 3, 4, 0, .null, 0), some (.iload_n 3, 5, 0, .null, 0), some (.aload_n 1, 6, 0, .null, 0), some (.getfield 67, 9, 325, .null, 116), none, none, some (.if_icmp .ge 30, 12, 39, .null, 0), none, none, some (.aload_n 0, 13, 0, .null, 0), some (.getfield 9, 16, 0, .null, 198), none, none],
  [some (.sipush 184, 19, 0, .int 184, 0), none, none, some (.iload_n 3, 20, 0, .null, 0), some (.iadd, 21, 0, .null, 0), some (.iaload, 22, 0, .null, 0), some (.bipush 16, 24, 0, .int 16, 0), none, some (.if_icmp .ne 9, 27, 33, .null, 0), none, none, some (.iload_n 2, 28, 0, .null, 0), some (.iconst 1, 29, 0, .int 1, 0), some (.iload_n 3, 30, 0, .null, 0), some (.ishl, 31, 0, .null, 0), some (.ior, 32, 0, .null, 0)],
  [some (.istore_n 2, 33, 0, .null, 0), some (.iinc 3 1, 36, 0, .int 1, 0), none, none, some (.goto (-32), 39, 4, .null, 0), none, none, some (.iload_n 2, 40, 0, .null, 0), some (.ireturn, 41, 0, .null, 0)]])
def mX0_trace : iMeth := (yX0_trace, cX0_trace, 8, none, 3, 10, [588, 78, 586, 587], [
  [some (.iconst 0, 1, 0, .int 0, 0), some (.istore 4, 3, 0, .null, 0), none, some (.iload 4, 5, 0, .null, 0), none, some (.bipush 24, 7, 0, .int 24, 0), none, some (.if_icmp .ge 73, 10, 80, .null, 0), none, none, some (.iload_n 3, 11, 0, .null, 0), some (.iload 4, 13, 0, .null, 0), none, some (.iadd, 14, 0, .null, 0), some (.aload_n 2, 15, 0, .null, 0), some (.arraylength, 16, 0, .null, 0)],
  [some (.invokestatic 47, 19, 77, .null, 437), none, none, some (.ifCond .eq 61, 22, 80, .null, 0), none, none, some (.lconst 0, 23, 0, .long 0, 0), some (.lstore 5, 25, 0, .null, 0), none, some (.iconst 0, 26, 0, .int 0, 0), some (.istore 7, 28, 0, .null, 0), none, some (.iload 7, 30, 0, .null, 0), none, some (.aload_n 1, 31, 0, .null, 0), some (.getfield 67, 34, 325, .null, 116)],
  [none, none, some (.if_icmp .ge 32, 37, 66, .null, 0), none, none, some (.lload 5, 39, 0, .null, 0), none, some (.iconst 5, 40, 0, .int 5, 0), some (.lshl, 41, 0, .null, 0), some (.aload_n 0, 42, 0, .null, 0), some (.getfield 9, 45, 0, .null, 198), none, none, some (.iload 4, 47, 0, .null, 0), none, some (.bipush 8, 49, 0, .int 8, 0)],
  [none, some (.imul, 50, 0, .null, 0), some (.iload 7, 52, 0, .null, 0), none, some (.iadd, 53, 0, .null, 0), some (.iaload, 54, 0, .null, 0), some (.iconst 1, 55, 0, .int 1, 0), some (.iadd, 56, 0, .null, 0), some (.i2l, 57, 0, .null, 0), some (.lor, 58, 0, .null, 0), some (.lstore 5, 60, 0, .null, 0), none, some (.iinc 7 1, 63, 0, .int 1, 0), none, none, some (.goto (-35), 66, 28, .null, 0)],
  [none, none, some (.aload_n 2, 67, 0, .null, 0), some (.iload_n 3, 68, 0, .null, 0), some (.iload 4, 70, 0, .null, 0), none, some (.iadd, 71, 0, .null, 0), some (.lload 5, 73, 0, .null, 0), none, some (.lastore, 74, 0, .null, 0), some (.iinc 4 1, 77, 0, .int 1, 0), none, none, some (.goto (-74), 80, 3, .null, 0), none, none],
  [some (.return_, 81, 0, .null, 0)]])
def mX1_init : iMeth := (yX1_init, cX1_init, 1, none, 0, 2, [136, 75, 135, 0], [
  [some (.aload_n 0, 1, 0, .null, 0), some (.invokespecial 3, 4, 1000, .null, 137), none, none, some (.aload_n 0, 5, 0, .null, 0), some (.bipush 8, 7, 0, .int 8, 0), none, some (.newarray .int, 9, 0, .null, 0), none, some (.putfield 9, 12, 64, .null, 138), none, none, some (.aload_n 0, 13, 0, .null, 0), some (.bipush 8, 15, 0, .int 8, 0), none, some (.newarray .int, 17, 0, .null, 0)],
  [none, some (.putfield 15, 20, 65, .null, 139), none, none, some (.aload_n 0, 21, 0, .null, 0), some (.bipush 8, 23, 0, .int 8, 0), none, some (.newarray .int, 25, 0, .null, 0), none, some (.putfield 18, 28, 66, .null, 140), none, none, some (.aload_n 0, 29, 0, .null, 0), some (.iconst 0, 30, 0, .int 0, 0), some (.putfield 21, 33, 67, .null, 141), none],
  [none, some (.return_, 34, 0, .null, 0)]])
def mX1_mayBe : iMeth := (yX1_mayBe, cX1_mayBe, 3, (some .boolean), 3, 0, [379, 75, 378, 0], [
  [some (.iload_n 0, 1, 0, .null, 0), some (.iconst 3, 2, 0, .int 3, 0), some (.invokestatic 25, 5, 77, .null, 380), none, none, some (.ifCond .eq 25, 8, 30, .null, 0), none, none, some (.iload_n 1, 9, 0, .null, 0), some (.bipush 24, 11, 0, .int 24, 0), none, some (.invokestatic 25, 14, 77, .null, 380), none, none, some (.ifCond .eq 16, 17, 30, .null, 0), none],
  [none, some (.iload_n 2, 18, 0, .null, 0), some (.bipush 16, 20, 0, .int 16, 0), none, some (.invokestatic 25, 23, 77, .null, 380), none, none, some (.ifCond .eq 7, 26, 30, .null, 0), none, none, some (.iconst 1, 27, 0, .int 1, 0), some (.goto 4, 30, 31, .null, 0), none, none, some (.iconst 0, 31, 0, .int 0, 0), some (.ireturn, 32, 0, .null, 0)]])
def mX1_append : iMeth := (yX1_append, cX1_append, 4, (some .boolean), 3, 11, [384, 75, 382, 383], [
  [some (.aload_n 0, 1, 0, .null, 0), some (.getfield 21, 4, 67, .null, 141), none, none, some (.bipush 8, 6, 0, .int 8, 0), none, some (.invokestatic 25, 9, 77, .null, 380), none, none, some (.ifCond .ne 5, 12, 14, .null, 0), none, none, some (.iconst 0, 13, 0, .int 0, 0), some (.ireturn, 14, 0, .null, 0), some (.aload_n 0, 15, 0, .null, 0), some (.getfield 9, 18, 64, .null, 138)],
  [none, none, some (.aload_n 0, 19, 0, .null, 0), some (.getfield 21, 22, 67, .null, 141), none, none, some (.iload_n 1, 23, 0, .null, 0), some (.iastore, 24, 0, .null, 0), some (.aload_n 0, 25, 0, .null, 0), some (.getfield 15, 28, 65, .null, 139), none, none, some (.aload_n 0, 29, 0, .null, 0), some (.getfield 21, 32, 67, .null, 141), none, none],
  [some (.iload_n 2, 33, 0, .null, 0), some (.iastore, 34, 0, .null, 0), some (.aload_n 0, 35, 0, .null, 0), some (.getfield 18, 38, 66, .null, 140), none, none, some (.aload_n 0, 39, 0, .null, 0), some (.getfield 21, 42, 67, .null, 141), none, none, some (.iload_n 3, 43, 0, .null, 0), some (.iastore, 44, 0, .null, 0), some (.aload_n 0, 45, 0, .null, 0), some (.dup, 46, 0, .null, 0), some (.getfield 21, 49, 67, .null, 141), none],
  [none, some (.iconst 1, 50, 0, .int 1, 0), some (.iadd, 51, 0, .null, 0), some (.putfield 21, 54, 67, .null, 141), none, none, some (.iconst 1, 55, 0, .int 1, 0), some (.ireturn, 56, 0, .null, 0)]])
def mX1_bits : iMeth := (yX1_bits, cX1_bits, 1, (some .int), 0, 11, [412, 75, 410, 411], [
  [some (.iconst 1, 1, 0, .int 1, 0), some (.aload_n 0, 2, 0, .null, 0), some (.getfield 21, 5, 67, .null, 141), none, none, some (.ishl, 6, 0, .null, 0), some (.iconst 1, 7, 0, .int 1, 0), some (.isub, 8, 0, .null, 0), some (.ireturn, 9, 0, .null, 0)]])
def mX1_mark : iMeth := (yX1_mark, cX1_mark, 6, none, 3, 11, [420, 75, 418, 419], [
  [some (.iconst 0, 1, 0, .int 0, 0), some (.istore 4, 3, 0, .null, 0), none, some (.iload 4, 5, 0, .null, 0), none, some (.aload_n 3, 6, 0, .null, 0), some (.arraylength, 7, 0, .null, 0), some (.if_icmp .ge 14, 10, 21, .null, 0), none, none, some (.aload_n 3, 11, 0, .null, 0), some (.iload 4, 13, 0, .null, 0), none, some (.iconst 0, 14, 0, .int 0, 0), some (.iastore, 15, 0, .null, 0), some (.iinc 4 1, 18, 0, .int 1, 0)],
  [none, none, some (.goto (-15), 21, 3, .null, 0), none, none, some (.iconst 0, 22, 0, .int 0, 0), some (.istore 4, 24, 0, .null, 0), none, some (.iload 4, 26, 0, .null, 0), none, some (.aload_n 0, 27, 0, .null, 0), some (.getfield 21, 30, 67, .null, 141), none, none, some (.if_icmp .ge 74, 33, 104, .null, 0), none],
  [none, some (.iload 4, 35, 0, .null, 0), none, some (.bipush 8, 37, 0, .int 8, 0), none, some (.if_icmp .ge 67, 40, 104, .null, 0), none, none, some (.aload_n 0, 41, 0, .null, 0), some (.getfield 15, 44, 65, .null, 139), none, none, some (.iload 4, 46, 0, .null, 0), none, some (.iaload, 47, 0, .null, 0), some (.istore 5, 49, 0, .null, 0)],
  [none, some (.aload_n 0, 50, 0, .null, 0), some (.getfield 9, 53, 64, .null, 138), none, none, some (.iload 4, 55, 0, .null, 0), none, some (.iaload, 56, 0, .null, 0), some (.iload_n 1, 57, 0, .null, 0), some (.if_icmp .ne 41, 60, 98, .null, 0), none, none, some (.iload_n 2, 61, 0, .null, 0), some (.iload 4, 63, 0, .null, 0), none, some (.ishr, 64, 0, .null, 0)],
  [some (.iconst 1, 65, 0, .int 1, 0), some (.iand, 66, 0, .null, 0), some (.iconst 1, 67, 0, .int 1, 0), some (.if_icmp .ne 31, 70, 98, .null, 0), none, none, some (.iload 5, 72, 0, .null, 0), none, some (.ifCond .lt 26, 75, 98, .null, 0), none, none, some (.iload 5, 77, 0, .null, 0), none, some (.aload_n 3, 78, 0, .null, 0), some (.arraylength, 79, 0, .null, 0), some (.if_icmp .ge 19, 82, 98, .null, 0)],
  [none, none, some (.aload_n 3, 83, 0, .null, 0), some (.iload 5, 85, 0, .null, 0), none, some (.dup2, 86, 0, .null, 0), some (.iaload, 87, 0, .null, 0), some (.iconst 1, 88, 0, .int 1, 0), some (.aload_n 0, 89, 0, .null, 0), some (.getfield 18, 92, 66, .null, 140), none, none, some (.iload 4, 94, 0, .null, 0), none, some (.iaload, 95, 0, .null, 0), some (.ishl, 96, 0, .null, 0)],
  [some (.ior, 97, 0, .null, 0), some (.iastore, 98, 0, .null, 0), some (.iinc 4 1, 101, 0, .int 1, 0), none, none, some (.goto (-77), 104, 24, .null, 0), none, none, some (.return_, 105, 0, .null, 0)]])
def mX2_init : iMeth := (yX2_init, cX2_init, 1, none, 0, 2, [241, 81, 240, 0], [
  [some (.aload_n 0, 1, 0, .null, 0), some (.invokespecial 3, 4, 1000, .null, 242), none, none, some (.aload_n 0, 5, 0, .null, 0), some (.bipush 60, 7, 0, .int 60, 0), none, some (.newarray .int, 9, 0, .null, 0), none, some (.putfield 9, 12, 128, .null, 243), none, none, some (.aload_n 0, 13, 0, .null, 0), some (.iconst 0, 14, 0, .int 0, 0), some (.putfield 15, 17, 129, .null, 245), none],
  [none, some (.aload_n 0, 18, 0, .null, 0), some (.iconst (-1), 19, 0, .int (-1), 0), some (.putfield 19, 22, 130, .null, 247), none, none, some (.return_, 23, 0, .null, 0)]])
def mX2_isLost : iMeth := (yX2_isLost, cX2_isLost, 1, (some .boolean), 0, 12, [396, 81, 394, 395], [
  [some (.aload_n 0, 1, 0, .null, 0), some (.getfield 19, 4, 130, .null, 247), none, none, some (.iconst (-1), 5, 0, .int (-1), 0), some (.if_icmp .ne 7, 8, 12, .null, 0), none, none, some (.iconst 1, 9, 0, .int 1, 0), some (.goto 4, 12, 13, .null, 0), none, none, some (.iconst 0, 13, 0, .int 0, 0), some (.ireturn, 14, 0, .null, 0)]])
def mX2_renew : iMeth := (yX2_renew, cX2_renew, 4, none, 2, 12, [629, 81, 627, 628], [
  [some (.aload_n 0, 1, 0, .null, 0), some (.iload_n 1, 2, 0, .null, 0), some (.putfield 15, 5, 129, .null, 245), none, none, some (.aload_n 0, 6, 0, .null, 0), some (.iload_n 2, 7, 0, .null, 0), some (.putfield 19, 10, 130, .null, 247), none, none, some (.iconst 0, 11, 0, .int 0, 0), some (.istore_n 3, 12, 0, .null, 0), some (.iload_n 3, 13, 0, .null, 0), some (.bipush 60, 15, 0, .int 60, 0), none, some (.if_icmp .ge 16, 18, 31, .null, 0)],
  [none, none, some (.aload_n 0, 19, 0, .null, 0), some (.getfield 9, 22, 128, .null, 243), none, none, some (.iload_n 3, 23, 0, .null, 0), some (.iconst 0, 24, 0, .int 0, 0), some (.iastore, 25, 0, .null, 0), some (.iinc 3 1, 28, 0, .int 1, 0), none, none, some (.goto (-16), 31, 12, .null, 0), none, none, some (.return_, 32, 0, .null, 0)]])
def mX2_findingAt : iMeth := (yX2_findingAt, cX2_findingAt, 3, (some .int), 2, 12, [641, 81, 639, 640], [
  [some (.aload_n 0, 1, 0, .null, 0), some (.invokevirtual 22, 4, 18, .null, 642), none, none, some (.ifCond .eq 5, 7, 9, .null, 0), none, none, some (.iconst 1, 8, 0, .int 1, 0), some (.ireturn, 9, 0, .null, 0), some (.aload_n 0, 10, 0, .null, 0), some (.getfield 15, 13, 129, .null, 245), none, none, some (.iload_n 1, 14, 0, .null, 0), some (.if_icmp .eq 5, 17, 19, .null, 0), none],
  [none, some (.iconst 3, 18, 0, .int 3, 0), some (.ireturn, 19, 0, .null, 0), some (.iload_n 2, 20, 0, .null, 0), some (.aload_n 0, 21, 0, .null, 0), some (.getfield 19, 24, 130, .null, 247), none, none, some (.invokestatic 26, 27, 77, .null, 643), none, none, some (.ifCond .eq 7, 30, 34, .null, 0), none, none, some (.iconst 0, 31, 0, .int 0, 0), some (.goto 4, 34, 35, .null, 0)],
  [none, none, some (.iconst 2, 35, 0, .int 2, 0), some (.ireturn, 36, 0, .null, 0)]])
def mX2_hasRun : iMeth := (yX2_hasRun, cX2_hasRun, 3, (some .boolean), 2, 12, [660, 81, 658, 659], [
  [some (.iload_n 1, 1, 0, .null, 0), some (.ifCond .lt 25, 4, 26, .null, 0), none, none, some (.iload_n 2, 5, 0, .null, 0), some (.ifCond .lt 21, 8, 26, .null, 0), none, none, some (.iload_n 1, 9, 0, .null, 0), some (.i2l, 10, 0, .null, 0), some (.iload_n 2, 11, 0, .null, 0), some (.i2l, 12, 0, .null, 0), some (.ladd, 13, 0, .null, 0), some (.aload_n 0, 14, 0, .null, 0), some (.getfield 19, 17, 130, .null, 247), none],
  [none, some (.i2l, 18, 0, .null, 0), some (.lcmp, 19, 0, .null, 0), some (.ifCond .gt 7, 22, 26, .null, 0), none, none, some (.iconst 1, 23, 0, .int 1, 0), some (.goto 4, 26, 27, .null, 0), none, none, some (.iconst 0, 27, 0, .int 0, 0), some (.ireturn, 28, 0, .null, 0)]])
def mX2_put : iMeth := (yX2_put, cX2_put, 3, none, 2, 12, [647, 81, 645, 646], [
  [some (.iload_n 1, 1, 0, .null, 0), some (.bipush 60, 3, 0, .int 60, 0), none, some (.invokestatic 26, 6, 77, .null, 643), none, none, some (.ifCond .ne 4, 9, 10, .null, 0), none, none, some (.return_, 10, 0, .null, 0), some (.aload_n 0, 11, 0, .null, 0), some (.getfield 15, 14, 129, .null, 245), none, none, some (.ifCond .ne 14, 17, 28, .null, 0), none],
  [none, some (.aload_n 0, 18, 0, .null, 0), some (.getfield 9, 21, 128, .null, 243), none, none, some (.iload_n 1, 22, 0, .null, 0), some (.iload_n 2, 23, 0, .null, 0), some (.i2b, 24, 0, .null, 0), some (.iastore, 25, 0, .null, 0), some (.goto 23, 28, 48, .null, 0), none, none, some (.aload_n 0, 29, 0, .null, 0), some (.getfield 9, 32, 128, .null, 243), none, none],
  [some (.iload_n 1, 33, 0, .null, 0), some (.aload_n 0, 34, 0, .null, 0), some (.getfield 15, 37, 129, .null, 245), none, none, some (.iconst 1, 38, 0, .int 1, 0), some (.if_icmp .ne 8, 41, 46, .null, 0), none, none, some (.iload_n 2, 42, 0, .null, 0), some (.i2s, 43, 0, .null, 0), some (.goto 4, 46, 47, .null, 0), none, none, some (.iload_n 2, 47, 0, .null, 0), some (.iastore, 48, 0, .null, 0)],
  [some (.return_, 49, 0, .null, 0)]])
def mX3_init : iMeth := (yX3_init, cX3_init, 1, none, 0, 2, [156, 76, 155, 0], [
  [some (.aload_n 0, 1, 0, .null, 0), some (.invokespecial 3, 4, 1000, .null, 157), none, none, some (.aload_n 0, 5, 0, .null, 0), some (.bipush 8, 7, 0, .int 8, 0), none, some (.newarray .int, 9, 0, .null, 0), none, some (.putfield 9, 12, 192, .null, 158), none, none, some (.aload_n 0, 13, 0, .null, 0), some (.bipush 8, 15, 0, .int 8, 0), none, some (.newarray .int, 17, 0, .null, 0)],
  [none, some (.putfield 15, 20, 193, .null, 159), none, none, some (.aload_n 0, 21, 0, .null, 0), some (.bipush 8, 23, 0, .int 8, 0), none, some (.newarray .int, 25, 0, .null, 0), none, some (.putfield 18, 28, 194, .null, 160), none, none, some (.aload_n 0, 29, 0, .null, 0), some (.iconst 0, 30, 0, .int 0, 0), some (.putfield 21, 33, 195, .null, 161), none],
  [none, some (.return_, 34, 0, .null, 0)]])
def mX3_append : iMeth := (yX3_append, cX3_append, 4, (some .boolean), 3, 13, [562, 76, 560, 561], [
  [some (.aload_n 0, 1, 0, .null, 0), some (.getfield 21, 4, 195, .null, 161), none, none, some (.bipush 8, 6, 0, .int 8, 0), none, some (.invokestatic 25, 9, 77, .null, 563), none, none, some (.ifCond .ne 5, 12, 14, .null, 0), none, none, some (.iconst 0, 13, 0, .int 0, 0), some (.ireturn, 14, 0, .null, 0), some (.aload_n 0, 15, 0, .null, 0), some (.getfield 9, 18, 192, .null, 158)],
  [none, none, some (.aload_n 0, 19, 0, .null, 0), some (.getfield 21, 22, 195, .null, 161), none, none, some (.iload_n 1, 23, 0, .null, 0), some (.iastore, 24, 0, .null, 0), some (.aload_n 0, 25, 0, .null, 0), some (.getfield 15, 28, 193, .null, 159), none, none, some (.aload_n 0, 29, 0, .null, 0), some (.getfield 21, 32, 195, .null, 161), none, none],
  [some (.iload_n 2, 33, 0, .null, 0), some (.iastore, 34, 0, .null, 0), some (.aload_n 0, 35, 0, .null, 0), some (.getfield 18, 38, 194, .null, 160), none, none, some (.aload_n 0, 39, 0, .null, 0), some (.getfield 21, 42, 195, .null, 161), none, none, some (.iload_n 3, 43, 0, .null, 0), some (.bipush 8, 45, 0, .int 8, 0), none, some (.if_icmp .ne 7, 48, 52, .null, 0), none, none],
  [some (.iconst (-1), 49, 0, .int (-1), 0), some (.goto 4, 52, 53, .null, 0), none, none, some (.iload_n 3, 53, 0, .null, 0), some (.iastore, 54, 0, .null, 0), some (.aload_n 0, 55, 0, .null, 0), some (.dup, 56, 0, .null, 0), some (.getfield 21, 59, 195, .null, 161), none, none, some (.iconst 1, 60, 0, .int 1, 0), some (.iadd, 61, 0, .null, 0), some (.putfield 21, 64, 195, .null, 161), none, none],
  [some (.iconst 1, 65, 0, .int 1, 0), some (.ireturn, 66, 0, .null, 0)]])
def mX3_fit : iMeth := (yX3_fit, cX3_fit, 4, (some .boolean), 2, 13, [575, 76, 573, 574], [
  [some (.iconst 0, 1, 0, .int 0, 0), some (.istore_n 3, 2, 0, .null, 0), some (.iload_n 3, 3, 0, .null, 0), some (.aload_n 0, 4, 0, .null, 0), some (.getfield 21, 7, 195, .null, 161), none, none, some (.if_icmp .ge 43, 10, 50, .null, 0), none, none, some (.iload_n 3, 11, 0, .null, 0), some (.bipush 8, 13, 0, .int 8, 0), none, some (.if_icmp .ge 37, 16, 50, .null, 0), none, none],
  [some (.aload_n 2, 17, 0, .null, 0), some (.aload_n 1, 18, 0, .null, 0), some (.aload_n 0, 19, 0, .null, 0), some (.getfield 9, 22, 192, .null, 158), none, none, some (.iload_n 3, 23, 0, .null, 0), some (.iaload, 24, 0, .null, 0), some (.aload_n 0, 25, 0, .null, 0), some (.getfield 15, 28, 193, .null, 159), none, none, some (.iload_n 3, 29, 0, .null, 0), some (.iaload, 30, 0, .null, 0), some (.invokevirtual 29, 33, 5, .null, 576), none],
  [none, some (.aload_n 0, 34, 0, .null, 0), some (.getfield 18, 37, 194, .null, 160), none, none, some (.iload_n 3, 38, 0, .null, 0), some (.iaload, 39, 0, .null, 0), some (.if_icmp .eq 5, 42, 44, .null, 0), none, none, some (.iconst 0, 43, 0, .int 0, 0), some (.ireturn, 44, 0, .null, 0), some (.iinc 3 1, 47, 0, .int 1, 0), none, none, some (.goto (-45), 50, 2, .null, 0)],
  [none, none, some (.iconst 1, 51, 0, .int 1, 0), some (.ireturn, 52, 0, .null, 0)]])
def mX4_init : iMeth := (yX4_init, cX4_init, 2, none, 1, 2, [222, 79, 221, 0], [
  [some (.aload_n 0, 1, 0, .null, 0), some (.invokespecial 1, 4, 1000, .null, 223), none, none, some (.aload_n 0, 5, 0, .null, 0), some (.iconst 0, 6, 0, .int 0, 0), some (.putfield 7, 9, 257, .null, 229), none, none, some (.aload_n 0, 10, 0, .null, 0), some (.iload_n 1, 11, 0, .null, 0), some (.iconst 0, 12, 0, .int 0, 0), some (.invokestatic 13, 15, 1002, .null, 224), none, none, some (.newarray .int, 17, 0, .null, 0)],
  [none, some (.putfield 19, 20, 256, .null, 227), none, none, some (.return_, 21, 0, .null, 0)]])
def mX4_append : iMeth := (yX4_append, cX4_append, 2, (some .boolean), 1, 14, [326, 79, 324, 325], [
  [some (.aload_n 0, 1, 0, .null, 0), some (.getfield 7, 4, 257, .null, 229), none, none, some (.ifCond .lt 15, 7, 19, .null, 0), none, none, some (.aload_n 0, 8, 0, .null, 0), some (.getfield 7, 11, 257, .null, 229), none, none, some (.aload_n 0, 12, 0, .null, 0), some (.getfield 19, 15, 256, .null, 227), none, none, some (.arraylength, 16, 0, .null, 0)],
  [some (.if_icmp .lt 5, 19, 21, .null, 0), none, none, some (.iconst 0, 20, 0, .int 0, 0), some (.ireturn, 21, 0, .null, 0), some (.aload_n 0, 22, 0, .null, 0), some (.getfield 19, 25, 256, .null, 227), none, none, some (.aload_n 0, 26, 0, .null, 0), some (.getfield 7, 29, 257, .null, 229), none, none, some (.iload_n 1, 30, 0, .null, 0), some (.iastore, 31, 0, .null, 0), some (.aload_n 0, 32, 0, .null, 0)],
  [some (.dup, 33, 0, .null, 0), some (.getfield 7, 36, 257, .null, 229), none, none, some (.iconst 1, 37, 0, .int 1, 0), some (.iadd, 38, 0, .null, 0), some (.putfield 7, 41, 257, .null, 229), none, none, some (.iconst 1, 42, 0, .int 1, 0), some (.ireturn, 43, 0, .null, 0)]])
def mX5_init : iMeth := (yX5_init, cX5_init, 1, none, 0, 2, [99, 74, 98, 0], [
  [some (.aload_n 0, 1, 0, .null, 0), some (.invokespecial 3, 4, 1000, .null, 100), none, none, some (.aload_n 0, 5, 0, .null, 0), some (.bipush 16, 7, 0, .int 16, 0), none, some (.newarray .int, 9, 0, .null, 0), none, some (.putfield 9, 12, 320, .null, 101), none, none, some (.aload_n 0, 13, 0, .null, 0), some (.bipush 16, 15, 0, .int 16, 0), none, some (.newarray .int, 17, 0, .null, 0)],
  [none, some (.putfield 15, 20, 321, .null, 104), none, none, some (.aload_n 0, 21, 0, .null, 0), some (.bipush 8, 23, 0, .int 8, 0), none, some (.newarray .int, 25, 0, .null, 0), none, some (.putfield 18, 28, 322, .null, 106), none, none, some (.aload_n 0, 29, 0, .null, 0), some (.bipush 8, 31, 0, .int 8, 0), none, some (.newarray .int, 33, 0, .null, 0)],
  [none, some (.putfield 21, 36, 323, .null, 109), none, none, some (.aload_n 0, 37, 0, .null, 0), some (.bipush 8, 39, 0, .int 8, 0), none, some (.newarray .int, 41, 0, .null, 0), none, some (.putfield 24, 44, 324, .null, 112), none, none, some (.aload_n 0, 45, 0, .null, 0), some (.iconst 0, 46, 0, .int 0, 0), some (.putfield 27, 49, 325, .null, 115), none],
  [none, some (.return_, 50, 0, .null, 0)]])
def mX5_tellSlopes : iMeth := (yX5_tellSlopes, cX5_tellSlopes, 2, (some .int), 1, 15, [259, 74, 257, 258], [
  [some (.aload_n 0, 1, 0, .null, 0), some (.aload_n 1, 2, 0, .null, 0), some (.bipush 49, 4, 0, .int 49, 0), none, some (.bipush 51, 6, 0, .int 51, 0), none, some (.aload_n 0, 7, 0, .null, 0), some (.getfield 9, 10, 320, .null, 101), none, none, some (.iconst 1, 11, 0, .int 1, 0), some (.invokevirtual 31, 14, 31, .null, 260), none, none, some (.ireturn, 15, 0, .null, 0)]])
def mX5_tellFeeders : iMeth := (yX5_tellFeeders, cX5_tellFeeders, 2, (some .int), 1, 15, [334, 74, 332, 333], [
  [some (.aload_n 0, 1, 0, .null, 0), some (.aload_n 1, 2, 0, .null, 0), some (.bipush 48, 4, 0, .int 48, 0), none, some (.bipush 57, 6, 0, .int 57, 0), none, some (.aload_n 0, 7, 0, .null, 0), some (.getfield 15, 10, 321, .null, 104), none, none, some (.iconst 0, 11, 0, .int 0, 0), some (.invokevirtual 31, 14, 31, .null, 260), none, none, some (.ireturn, 15, 0, .null, 0)]])
def mX5_tellFigures : iMeth := (yX5_tellFigures, cX5_tellFigures, 9, (some .int), 5, 15, [263, 74, 262, 0], [
  [some (.iconst (-1), 1, 0, .int (-1), 0), some (.istore 6, 3, 0, .null, 0), none, some (.iconst 0, 4, 0, .int 0, 0), some (.istore 7, 6, 0, .null, 0), none, some (.iload 7, 8, 0, .null, 0), none, some (.aload_n 1, 9, 0, .null, 0), some (.getfield 35, 12, 257, .null, 231), none, none, some (.if_icmp .ge 51, 15, 63, .null, 0), none, none, some (.iload 7, 17, 0, .null, 0)],
  [none, some (.aload_n 1, 18, 0, .null, 0), some (.getfield 40, 21, 256, .null, 228), none, none, some (.arraylength, 22, 0, .null, 0), some (.if_icmp .ge 41, 25, 63, .null, 0), none, none, some (.iload 6, 27, 0, .null, 0), none, some (.iconst (-1), 28, 0, .int (-1), 0), some (.if_icmp .ne 35, 31, 63, .null, 0), none, none, some (.aload_n 1, 32, 0, .null, 0)],
  [some (.getfield 40, 35, 256, .null, 228), none, none, some (.iload 7, 37, 0, .null, 0), none, some (.iaload, 38, 0, .null, 0), some (.iload_n 2, 39, 0, .null, 0), some (.if_icmp .lt 14, 42, 53, .null, 0), none, none, some (.aload_n 1, 43, 0, .null, 0), some (.getfield 40, 46, 256, .null, 228), none, none, some (.iload 7, 48, 0, .null, 0), none],
  [some (.iaload, 49, 0, .null, 0), some (.iload_n 3, 50, 0, .null, 0), some (.if_icmp .le 7, 53, 57, .null, 0), none, none, some (.iload 7, 55, 0, .null, 0), none, some (.istore 6, 57, 0, .null, 0), none, some (.iinc 7 1, 60, 0, .int 1, 0), none, none, some (.goto (-54), 63, 6, .null, 0), none, none, some (.iconst 0, 64, 0, .int 0, 0)],
  [some (.istore 7, 66, 0, .null, 0), none, some (.iload 7, 68, 0, .null, 0), none, some (.aload 4, 70, 0, .null, 0), none, some (.arraylength, 71, 0, .null, 0), some (.if_icmp .ge 66, 74, 137, .null, 0), none, none, some (.iload 6, 76, 0, .null, 0), none, some (.iconst (-1), 77, 0, .int (-1), 0), some (.if_icmp .ne 26, 80, 103, .null, 0), none, none],
  [some (.iload 7, 82, 0, .null, 0), none, some (.aload_n 1, 83, 0, .null, 0), some (.getfield 35, 86, 257, .null, 231), none, none, some (.if_icmp .ge 17, 89, 103, .null, 0), none, none, some (.iload 7, 91, 0, .null, 0), none, some (.aload_n 1, 92, 0, .null, 0), some (.getfield 40, 95, 256, .null, 228), none, none, some (.arraylength, 96, 0, .null, 0)],
  [some (.if_icmp .ge 7, 99, 103, .null, 0), none, none, some (.iconst 1, 100, 0, .int 1, 0), some (.goto 4, 103, 104, .null, 0), none, none, some (.iconst 0, 104, 0, .int 0, 0), some (.istore 8, 106, 0, .null, 0), none, some (.aload 4, 108, 0, .null, 0), none, some (.iload 7, 110, 0, .null, 0), none, some (.iload 8, 112, 0, .null, 0), none],
  [some (.ifCond .eq 16, 115, 128, .null, 0), none, none, some (.aload_n 1, 116, 0, .null, 0), some (.getfield 40, 119, 256, .null, 228), none, none, some (.iload 7, 121, 0, .null, 0), none, some (.iaload, 122, 0, .null, 0), some (.bipush 48, 124, 0, .int 48, 0), none, some (.isub, 125, 0, .null, 0), some (.goto 5, 128, 130, .null, 0), none, none],
  [some (.iload 5, 130, 0, .null, 0), none, some (.iastore, 131, 0, .null, 0), some (.iinc 7 1, 134, 0, .int 1, 0), none, none, some (.goto (-68), 137, 66, .null, 0), none, none, some (.iload 6, 139, 0, .null, 0), none, some (.ireturn, 140, 0, .null, 0)]])
def mX5_tellLogs : iMeth := (yX5_tellLogs, cX5_tellLogs, 4, (some .int), 1, 15, [338, 74, 336, 337], [
  [some (.aload_n 0, 1, 0, .null, 0), some (.iconst 0, 2, 0, .int 0, 0), some (.putfield 27, 5, 325, .null, 115), none, none, some (.aload_n 1, 6, 0, .null, 0), some (.invokestatic 43, 9, 33, .null, 339), none, none, some (.istore_n 2, 10, 0, .null, 0), some (.iload_n 2, 11, 0, .null, 0), some (.iconst (-1), 12, 0, .int (-1), 0), some (.if_icmp .eq 5, 15, 17, .null, 0), none, none, some (.iload_n 2, 16, 0, .null, 0)],
  [some (.ireturn, 17, 0, .null, 0), some (.iconst 0, 18, 0, .int 0, 0), some (.istore_n 3, 19, 0, .null, 0), some (.iload_n 3, 20, 0, .null, 0), some (.iconst 2, 21, 0, .int 2, 0), some (.iadd, 22, 0, .null, 0), some (.aload_n 1, 23, 0, .null, 0), some (.getfield 35, 26, 257, .null, 231), none, none, some (.if_icmp .ge 104, 29, 130, .null, 0), none, none, some (.iload_n 3, 30, 0, .null, 0), some (.iconst 2, 31, 0, .int 2, 0), some (.iadd, 32, 0, .null, 0)],
  [some (.aload_n 1, 33, 0, .null, 0), some (.getfield 40, 36, 256, .null, 228), none, none, some (.arraylength, 37, 0, .null, 0), some (.if_icmp .ge 93, 40, 130, .null, 0), none, none, some (.aload_n 0, 41, 0, .null, 0), some (.getfield 27, 44, 325, .null, 115), none, none, some (.bipush 8, 46, 0, .int 8, 0), none, some (.if_icmp .ge 84, 49, 130, .null, 0), none],
  [none, some (.aload_n 0, 50, 0, .null, 0), some (.getfield 18, 53, 322, .null, 106), none, none, some (.aload_n 0, 54, 0, .null, 0), some (.getfield 27, 57, 325, .null, 115), none, none, some (.aload_n 1, 58, 0, .null, 0), some (.getfield 40, 61, 256, .null, 228), none, none, some (.iload_n 3, 62, 0, .null, 0), some (.iaload, 63, 0, .null, 0), some (.bipush 97, 65, 0, .int 97, 0)],
  [none, some (.isub, 66, 0, .null, 0), some (.iastore, 67, 0, .null, 0), some (.aload_n 0, 68, 0, .null, 0), some (.getfield 21, 71, 323, .null, 109), none, none, some (.aload_n 0, 72, 0, .null, 0), some (.getfield 27, 75, 325, .null, 115), none, none, some (.aload_n 1, 76, 0, .null, 0), some (.getfield 40, 79, 256, .null, 228), none, none, some (.iload_n 3, 80, 0, .null, 0)],
  [some (.iconst 1, 81, 0, .int 1, 0), some (.iadd, 82, 0, .null, 0), some (.iaload, 83, 0, .null, 0), some (.bipush 48, 85, 0, .int 48, 0), none, some (.isub, 86, 0, .null, 0), some (.iastore, 87, 0, .null, 0), some (.aload_n 0, 88, 0, .null, 0), some (.getfield 24, 91, 324, .null, 112), none, none, some (.aload_n 0, 92, 0, .null, 0), some (.getfield 27, 95, 325, .null, 115), none, none, some (.aload_n 1, 96, 0, .null, 0)],
  [some (.getfield 40, 99, 256, .null, 228), none, none, some (.iload_n 3, 100, 0, .null, 0), some (.iconst 2, 101, 0, .int 2, 0), some (.iadd, 102, 0, .null, 0), some (.iaload, 103, 0, .null, 0), some (.bipush 108, 105, 0, .int 108, 0), none, some (.if_icmp .ne 7, 108, 112, .null, 0), none, none, some (.iconst 1, 109, 0, .int 1, 0), some (.goto 4, 112, 113, .null, 0), none, none],
  [some (.iconst 0, 113, 0, .int 0, 0), some (.iastore, 114, 0, .null, 0), some (.aload_n 0, 115, 0, .null, 0), some (.dup, 116, 0, .null, 0), some (.getfield 27, 119, 325, .null, 115), none, none, some (.iconst 1, 120, 0, .int 1, 0), some (.iadd, 121, 0, .null, 0), some (.putfield 27, 124, 325, .null, 115), none, none, some (.iinc 3 4, 127, 0, .int 4, 0), none, none, some (.goto (-108), 130, 19, .null, 0)],
  [none, none, some (.iconst (-1), 131, 0, .int (-1), 0), some (.ireturn, 132, 0, .null, 0)]])
def mX5_faultOfLogs : iMeth := (yX5_faultOfLogs, cX5_faultOfLogs, 2, (some .int), 1, 0, [341, 74, 340, 0], [
  [some (.iconst 0, 1, 0, .int 0, 0), some (.istore_n 1, 2, 0, .null, 0), some (.iload_n 1, 3, 0, .null, 0), some (.aload_n 0, 4, 0, .null, 0), some (.getfield 35, 7, 257, .null, 231), none, none, some (.if_icmp .ge 43, 10, 50, .null, 0), none, none, some (.iload_n 1, 11, 0, .null, 0), some (.aload_n 0, 12, 0, .null, 0), some (.getfield 40, 15, 256, .null, 228), none, none, some (.arraylength, 16, 0, .null, 0)],
  [some (.if_icmp .ge 34, 19, 50, .null, 0), none, none, some (.iload_n 1, 20, 0, .null, 0), some (.iconst 4, 21, 0, .int 4, 0), some (.idiv, 22, 0, .null, 0), some (.bipush 8, 24, 0, .int 8, 0), none, some (.if_icmp .ge 18, 27, 42, .null, 0), none, none, some (.iload_n 1, 28, 0, .null, 0), some (.iconst 4, 29, 0, .int 4, 0), some (.irem, 30, 0, .null, 0), some (.aload_n 0, 31, 0, .null, 0), some (.getfield 40, 34, 256, .null, 228)],
  [none, none, some (.iload_n 1, 35, 0, .null, 0), some (.iaload, 36, 0, .null, 0), some (.invokestatic 47, 39, 34, .null, 342), none, none, some (.ifCond .ne 5, 42, 44, .null, 0), none, none, some (.iload_n 1, 43, 0, .null, 0), some (.ireturn, 44, 0, .null, 0), some (.iinc 1 1, 47, 0, .int 1, 0), none, none, some (.goto (-45), 50, 2, .null, 0)],
  [none, none, some (.aload_n 0, 51, 0, .null, 0), some (.getfield 35, 54, 257, .null, 231), none, none, some (.ifCond .eq 13, 57, 67, .null, 0), none, none, some (.aload_n 0, 58, 0, .null, 0), some (.getfield 35, 61, 257, .null, 231), none, none, some (.iconst 4, 62, 0, .int 4, 0), some (.irem, 63, 0, .null, 0), some (.iconst 3, 64, 0, .int 3, 0)],
  [some (.if_icmp .ne 7, 67, 71, .null, 0), none, none, some (.iconst (-1), 68, 0, .int (-1), 0), some (.goto 7, 71, 75, .null, 0), none, none, some (.aload_n 0, 72, 0, .null, 0), some (.getfield 35, 75, 257, .null, 231), none, none, some (.ireturn, 76, 0, .null, 0)]])
def mX5_mayStand : iMeth := (yX5_mayStand, cX5_mayStand, 2, (some .boolean), 2, 0, [344, 74, 343, 0], [
  [some (.iload_n 0, 1, 0, .null, 0), some (.tableswitch 81 0 2 #[27, 45, 63], 28, 0, .null, 0), none, none, none, none, none, none, none, none, none, none, none, none, none, none],
  [none, none, none, none, none, none, none, none, none, none, none, none, some (.iload_n 1, 29, 0, .null, 0), some (.bipush 97, 31, 0, .int 97, 0), none, some (.if_icmp .lt 13, 34, 44, .null, 0)],
  [none, none, some (.iload_n 1, 35, 0, .null, 0), some (.bipush 120, 37, 0, .int 120, 0), none, some (.if_icmp .gt 7, 40, 44, .null, 0), none, none, some (.iconst 1, 41, 0, .int 1, 0), some (.goto 4, 44, 45, .null, 0), none, none, some (.iconst 0, 45, 0, .int 0, 0), some (.ireturn, 46, 0, .null, 0), some (.iload_n 1, 47, 0, .null, 0), some (.bipush 49, 49, 0, .int 49, 0)],
  [none, some (.if_icmp .lt 13, 52, 62, .null, 0), none, none, some (.iload_n 1, 53, 0, .null, 0), some (.bipush 57, 55, 0, .int 57, 0), none, some (.if_icmp .gt 7, 58, 62, .null, 0), none, none, some (.iconst 1, 59, 0, .int 1, 0), some (.goto 4, 62, 63, .null, 0), none, none, some (.iconst 0, 63, 0, .int 0, 0), some (.ireturn, 64, 0, .null, 0)],
  [some (.iload_n 1, 65, 0, .null, 0), some (.bipush 115, 67, 0, .int 115, 0), none, some (.if_icmp .eq 9, 70, 76, .null, 0), none, none, some (.iload_n 1, 71, 0, .null, 0), some (.bipush 108, 73, 0, .int 108, 0), none, some (.if_icmp .ne 7, 76, 80, .null, 0), none, none, some (.iconst 1, 77, 0, .int 1, 0), some (.goto 4, 80, 81, .null, 0), none, none],
  [some (.iconst 0, 81, 0, .int 0, 0), some (.ireturn, 82, 0, .null, 0), some (.iload_n 1, 83, 0, .null, 0), some (.bipush 59, 85, 0, .int 59, 0), none, some (.if_icmp .ne 7, 88, 92, .null, 0), none, none, some (.iconst 1, 89, 0, .int 1, 0), some (.goto 4, 92, 93, .null, 0), none, none, some (.iconst 0, 93, 0, .int 0, 0), some (.ireturn, 94, 0, .null, 0)]])
def mX5_logBits : iMeth := (yX5_logBits, cX5_logBits, 1, (some .int), 0, 15, [432, 74, 430, 431], [
  [some (.iconst 1, 1, 0, .int 1, 0), some (.aload_n 0, 2, 0, .null, 0), some (.getfield 27, 5, 325, .null, 115), none, none, some (.ishl, 6, 0, .null, 0), some (.iconst 1, 7, 0, .int 1, 0), some (.isub, 8, 0, .null, 0), some (.ireturn, 9, 0, .null, 0)]])
def mX6_init : iMeth := (yX6_init, cX6_init, 1, none, 0, 2, [178, 77, 177, 0], [
  [some (.aload_n 0, 1, 0, .null, 0), some (.invokespecial 3, 4, 1000, .null, 179), none, none, some (.aload_n 0, 5, 0, .null, 0), some (.sipush 384, 8, 0, .int 384, 0), none, none, some (.newarray .int, 10, 0, .null, 0), none, some (.putfield 9, 13, 384, .null, 180), none, none, some (.aload_n 0, 14, 0, .null, 0), some (.bipush 24, 16, 0, .int 24, 0), none],
  [some (.newarray .int, 18, 0, .null, 0), none, some (.putfield 15, 21, 385, .null, 183), none, none, some (.aload_n 0, 22, 0, .null, 0), some (.bipush 24, 24, 0, .int 24, 0), none, some (.newarray .int, 26, 0, .null, 0), none, some (.putfield 18, 29, 386, .null, 184), none, none, some (.return_, 30, 0, .null, 0)]])
def mX6_pour : iMeth := (yX6_pour, cX6_pour, 7, none, 3, 16, [416, 77, 414, 415], [
  [some (.aload_n 2, 1, 0, .null, 0), some (.iconst 1, 2, 0, .int 1, 0), some (.iload_n 3, 3, 0, .null, 0), some (.aload_n 0, 4, 0, .null, 0), some (.getfield 15, 7, 385, .null, 183), none, none, some (.invokevirtual 21, 10, 16, .null, 417), none, none, some (.aload_n 2, 11, 0, .null, 0), some (.iconst 2, 12, 0, .int 2, 0), some (.iload_n 3, 13, 0, .null, 0), some (.aload_n 0, 14, 0, .null, 0), some (.getfield 18, 17, 386, .null, 184), none],
  [none, some (.invokevirtual 21, 20, 16, .null, 417), none, none, some (.iconst 0, 21, 0, .int 0, 0), some (.istore 4, 23, 0, .null, 0), none, some (.iload 4, 25, 0, .null, 0), none, some (.bipush 24, 27, 0, .int 24, 0), none, some (.if_icmp .ge 136, 30, 163, .null, 0), none, none, some (.iconst 0, 31, 0, .int 0, 0), some (.istore 5, 33, 0, .null, 0)],
  [none, some (.iload 5, 35, 0, .null, 0), none, some (.bipush 16, 37, 0, .int 16, 0), none, some (.if_icmp .ge 120, 40, 157, .null, 0), none, none, some (.iload 5, 42, 0, .null, 0), none, some (.aload_n 1, 43, 0, .null, 0), some (.arraylength, 44, 0, .null, 0), some (.if_icmp .ge 113, 47, 157, .null, 0), none, none, some (.iload 4, 49, 0, .null, 0)],
  [none, some (.ifCond .le 28, 52, 77, .null, 0), none, none, some (.iload 5, 54, 0, .null, 0), none, some (.ifCond .le 23, 57, 77, .null, 0), none, none, some (.aload_n 0, 58, 0, .null, 0), some (.getfield 9, 61, 384, .null, 180), none, none, some (.iload 4, 63, 0, .null, 0), none, some (.iconst 1, 64, 0, .int 1, 0)],
  [some (.isub, 65, 0, .null, 0), some (.bipush 16, 67, 0, .int 16, 0), none, some (.imul, 68, 0, .null, 0), some (.iload 5, 70, 0, .null, 0), none, some (.iadd, 71, 0, .null, 0), some (.iconst 1, 72, 0, .int 1, 0), some (.isub, 73, 0, .null, 0), some (.iaload, 74, 0, .null, 0), some (.goto 4, 77, 78, .null, 0), none, none, some (.iconst 0, 78, 0, .int 0, 0), some (.istore 6, 80, 0, .null, 0), none],
  [some (.iload 6, 82, 0, .null, 0), none, some (.ifCond .le 6, 85, 88, .null, 0), none, none, some (.iinc 6 (-1), 88, 0, .int (-1), 0), none, none, some (.aload_n 0, 89, 0, .null, 0), some (.getfield 15, 92, 385, .null, 183), none, none, some (.iload 4, 94, 0, .null, 0), none, some (.iaload, 95, 0, .null, 0), some (.iload 5, 97, 0, .null, 0)],
  [none, some (.ishr, 98, 0, .null, 0), some (.iconst 1, 99, 0, .int 1, 0), some (.iand, 100, 0, .null, 0), some (.ifCond .ne 17, 103, 117, .null, 0), none, none, some (.iload 6, 105, 0, .null, 0), none, some (.aload_n 1, 106, 0, .null, 0), some (.iload 5, 108, 0, .null, 0), none, some (.iaload, 109, 0, .null, 0), some (.iadd, 110, 0, .null, 0), some (.bipush 20, 112, 0, .int 20, 0), none],
  [some (.invokestatic 27, 115, 1003, .null, 421), none, none, some (.istore 6, 117, 0, .null, 0), none, some (.aload_n 0, 118, 0, .null, 0), some (.getfield 9, 121, 384, .null, 180), none, none, some (.iload 4, 123, 0, .null, 0), none, some (.bipush 16, 125, 0, .int 16, 0), none, some (.imul, 126, 0, .null, 0), some (.iload 5, 128, 0, .null, 0), none],
  [some (.iadd, 129, 0, .null, 0), some (.aload_n 0, 130, 0, .null, 0), some (.getfield 18, 133, 386, .null, 184), none, none, some (.iload 4, 135, 0, .null, 0), none, some (.iaload, 136, 0, .null, 0), some (.iload 5, 138, 0, .null, 0), none, some (.ishr, 139, 0, .null, 0), some (.iconst 1, 140, 0, .int 1, 0), some (.iand, 141, 0, .null, 0), some (.ifCond .ne 8, 144, 149, .null, 0), none, none],
  [some (.iload 6, 146, 0, .null, 0), none, some (.goto 4, 149, 150, .null, 0), none, none, some (.iconst 0, 150, 0, .int 0, 0), some (.iastore, 151, 0, .null, 0), some (.iinc 5 1, 154, 0, .int 1, 0), none, none, some (.goto (-121), 157, 33, .null, 0), none, none, some (.iinc 4 1, 160, 0, .int 1, 0), none, none],
  [some (.goto (-137), 163, 23, .null, 0), none, none, some (.return_, 164, 0, .null, 0)]])
def mX6_together : iMeth := (yX6_together, cX6_together, 4, (some .int), 1, 16, [462, 77, 460, 461], [
  [some (.iconst 0, 1, 0, .int 0, 0), some (.istore_n 2, 2, 0, .null, 0), some (.iconst 0, 3, 0, .int 0, 0), some (.istore_n 3, 4, 0, .null, 0), some (.iload_n 3, 5, 0, .null, 0), some (.bipush 16, 7, 0, .int 16, 0), none, some (.if_icmp .ge 23, 10, 30, .null, 0), none, none, some (.iload_n 2, 11, 0, .null, 0), some (.aload_n 0, 12, 0, .null, 0), some (.getfield 9, 15, 384, .null, 180), none, none, some (.iload_n 1, 16, 0, .null, 0)],
  [some (.bipush 16, 18, 0, .int 16, 0), none, some (.imul, 19, 0, .null, 0), some (.iload_n 3, 20, 0, .null, 0), some (.iadd, 21, 0, .null, 0), some (.iaload, 22, 0, .null, 0), some (.iadd, 23, 0, .null, 0), some (.istore_n 2, 24, 0, .null, 0), some (.iinc 3 1, 27, 0, .int 1, 0), none, none, some (.goto (-23), 30, 4, .null, 0), none, none, some (.iload_n 2, 31, 0, .null, 0), some (.ireturn, 32, 0, .null, 0)]])
def mX6_dryBits : iMeth := (yX6_dryBits, cX6_dryBits, 4, (some .int), 0, 16, [490, 77, 488, 489], [
  [some (.ldc 33, 2, 0, .int 65535, 491), none, some (.istore_n 1, 3, 0, .null, 0), some (.iconst 0, 4, 0, .int 0, 0), some (.istore_n 2, 5, 0, .null, 0), some (.iload_n 2, 6, 0, .null, 0), some (.bipush 24, 8, 0, .int 24, 0), none, some (.if_icmp .ge 45, 11, 53, .null, 0), none, none, some (.iconst 0, 12, 0, .int 0, 0), some (.istore_n 3, 13, 0, .null, 0), some (.iload_n 3, 14, 0, .null, 0), some (.bipush 16, 16, 0, .int 16, 0), none],
  [some (.if_icmp .ge 31, 19, 47, .null, 0), none, none, some (.aload_n 0, 20, 0, .null, 0), some (.getfield 9, 23, 384, .null, 180), none, none, some (.iload_n 2, 24, 0, .null, 0), some (.bipush 16, 26, 0, .int 16, 0), none, some (.imul, 27, 0, .null, 0), some (.iload_n 3, 28, 0, .null, 0), some (.iadd, 29, 0, .null, 0), some (.iaload, 30, 0, .null, 0), some (.ifCond .le 11, 33, 41, .null, 0), none],
  [none, some (.iload_n 1, 34, 0, .null, 0), some (.iconst 1, 35, 0, .int 1, 0), some (.iload_n 3, 36, 0, .null, 0), some (.ishl, 37, 0, .null, 0), some (.iconst (-1), 38, 0, .int (-1), 0), some (.ixor, 39, 0, .null, 0), some (.iand, 40, 0, .null, 0), some (.istore_n 1, 41, 0, .null, 0), some (.iinc 3 1, 44, 0, .int 1, 0), none, none, some (.goto (-31), 47, 13, .null, 0), none, none, some (.iinc 2 1, 50, 0, .int 1, 0)],
  [none, none, some (.goto (-45), 53, 5, .null, 0), none, none, some (.iload_n 1, 54, 0, .null, 0), some (.ireturn, 55, 0, .null, 0)]])
def mX7_init : iMeth := (yX7_init, cX7_init, 2, none, 0, 2, [89, 73, 88, 0], [
  [some (.aload_n 0, 1, 0, .null, 0), some (.invokespecial 1, 4, 1000, .null, 90), none, none, some (.aload_n 0, 5, 0, .null, 0), some (.iconst 3, 6, 0, .int 3, 0), some (.anewarray 9, 9, 2, .null, 93), none, none, some (.putfield 11, 12, 448, .null, 264), none, none, some (.aload_n 0, 13, 0, .null, 0), some (.iconst 3, 14, 0, .int 3, 0), some (.newarray .int, 16, 0, .null, 0), none],
  [some (.putfield 15, 19, 449, .null, 265), none, none, some (.aload_n 0, 20, 0, .null, 0), some (.new 19, 23, 5, .null, 95), none, none, some (.dup, 24, 0, .null, 0), some (.invokespecial 21, 27, 28, .null, 97), none, none, some (.putfield 22, 30, 450, .null, 266), none, none, some (.aload_n 0, 31, 0, .null, 0), some (.new 26, 34, 1, .null, 132)],
  [none, none, some (.dup, 35, 0, .null, 0), some (.invokespecial 28, 38, 12, .null, 134), none, none, some (.putfield 29, 41, 451, .null, 267), none, none, some (.aload_n 0, 42, 0, .null, 0), some (.new 33, 45, 3, .null, 152), none, none, some (.dup, 46, 0, .null, 0), some (.invokespecial 35, 49, 23, .null, 154), none],
  [none, some (.putfield 36, 52, 452, .null, 268), none, none, some (.aload_n 0, 53, 0, .null, 0), some (.iconst 4, 54, 0, .int 4, 0), some (.anewarray 40, 57, 3, .null, 172), none, none, some (.putfield 42, 60, 453, .null, 269), none, none, some (.aload_n 0, 61, 0, .null, 0), some (.iconst 0, 62, 0, .int 0, 0), some (.putfield 46, 65, 454, .null, 270), none],
  [none, some (.aload_n 0, 66, 0, .null, 0), some (.iconst 0, 67, 0, .int 0, 0), some (.putfield 50, 70, 455, .null, 271), none, none, some (.aload_n 0, 71, 0, .null, 0), some (.new 54, 74, 6, .null, 174), none, none, some (.dup, 75, 0, .null, 0), some (.invokespecial 56, 78, 36, .null, 176), none, none, some (.putfield 57, 81, 456, .null, 272), none],
  [none, some (.aload_n 0, 82, 0, .null, 0), some (.new 61, 85, 0, .null, 192), none, none, some (.dup, 86, 0, .null, 0), some (.invokespecial 63, 89, 0, .null, 194), none, none, some (.putfield 64, 92, 457, .null, 273), none, none, some (.aload_n 0, 93, 0, .null, 0), some (.new 54, 96, 6, .null, 174), none, none],
  [some (.dup, 97, 0, .null, 0), some (.invokespecial 56, 100, 36, .null, 176), none, none, some (.putfield 68, 103, 458, .null, 274), none, none, some (.aload_n 0, 104, 0, .null, 0), some (.new 61, 107, 0, .null, 192), none, none, some (.dup, 108, 0, .null, 0), some (.invokespecial 63, 111, 0, .null, 194), none, none, some (.putfield 71, 114, 459, .null, 275)],
  [none, none, some (.aload_n 0, 115, 0, .null, 0), some (.bipush 16, 117, 0, .int 16, 0), none, some (.newarray .int, 119, 0, .null, 0), none, some (.putfield 74, 122, 460, .null, 276), none, none, some (.aload_n 0, 123, 0, .null, 0), some (.sipush 256, 126, 0, .int 256, 0), none, none, some (.newarray .int, 128, 0, .null, 0), none],
  [some (.putfield 77, 131, 461, .null, 277), none, none, some (.aload_n 0, 132, 0, .null, 0), some (.sipush 240, 135, 0, .int 240, 0), none, none, some (.newarray .long, 137, 0, .null, 0), none, some (.putfield 80, 140, 462, .null, 278), none, none, some (.aload_n 0, 141, 0, .null, 0), some (.iconst 0, 142, 0, .int 0, 0), some (.putfield 84, 145, 463, .null, 279), none],
  [none, some (.aload_n 0, 146, 0, .null, 0), some (.iconst 0, 147, 0, .int 0, 0), some (.putfield 87, 150, 464, .null, 280), none, none, some (.iconst 0, 151, 0, .int 0, 0), some (.istore_n 1, 152, 0, .null, 0), some (.iload_n 1, 153, 0, .null, 0), some (.iconst 3, 154, 0, .int 3, 0), some (.if_icmp .ge 45, 157, 199, .null, 0), none, none, some (.aload_n 0, 158, 0, .null, 0), some (.getfield 11, 161, 448, .null, 264), none],
  [none, some (.iload_n 1, 162, 0, .null, 0), some (.new 9, 165, 4, .null, 93), none, none, some (.dup, 166, 0, .null, 0), some (.iload_n 1, 167, 0, .null, 0), some (.ifCond .eq 8, 170, 175, .null, 0), none, none, some (.iload_n 1, 171, 0, .null, 0), some (.iconst 1, 172, 0, .int 1, 0), some (.if_icmp .ne 8, 175, 180, .null, 0), none, none, some (.bipush 16, 177, 0, .int 16, 0)],
  [none, some (.goto 5, 180, 182, .null, 0), none, none, some (.bipush 31, 182, 0, .int 31, 0), none, some (.invokespecial 90, 185, 26, .null, 220), none, none, some (.aastore, 186, 0, .null, 0), some (.aload_n 0, 187, 0, .null, 0), some (.getfield 15, 190, 449, .null, 265), none, none, some (.iload_n 1, 191, 0, .null, 0), some (.iconst (-1), 192, 0, .int (-1), 0)],
  [some (.iastore, 193, 0, .null, 0), some (.iinc 1 1, 196, 0, .int 1, 0), none, none, some (.goto (-44), 199, 152, .null, 0), none, none, some (.iconst 0, 200, 0, .int 0, 0), some (.istore_n 1, 201, 0, .null, 0), some (.iload_n 1, 202, 0, .null, 0), some (.iconst 4, 203, 0, .int 4, 0), some (.if_icmp .ge 22, 206, 225, .null, 0), none, none, some (.aload_n 0, 207, 0, .null, 0), some (.getfield 42, 210, 453, .null, 269)],
  [none, none, some (.iload_n 1, 211, 0, .null, 0), some (.new 40, 214, 2, .null, 172), none, none, some (.dup, 215, 0, .null, 0), some (.invokespecial 93, 218, 17, .null, 239), none, none, some (.aastore, 219, 0, .null, 0), some (.iinc 1 1, 222, 0, .int 1, 0), none, none, some (.goto (-21), 225, 201, .null, 0), none],
  [none, some (.aload_n 0, 226, 0, .null, 0), some (.getfield 22, 229, 450, .null, 266), none, none, some (.aload_n 0, 230, 0, .null, 0), some (.getfield 11, 233, 448, .null, 264), none, none, some (.iconst 0, 234, 0, .int 0, 0), some (.aaload, 235, 0, .null, 0), some (.invokevirtual 94, 238, 29, .null, 256), none, none, some (.pop, 239, 0, .null, 0), some (.return_, 240, 0, .null, 0)]])
def mX7_type : iMeth := (yX7_type, cX7_type, 3, (some .int), 2, 17, [319, 73, 317, 318], [
  [some (.iload_n 1, 1, 0, .null, 0), some (.iconst 3, 2, 0, .int 3, 0), some (.invokestatic 98, 5, 77, .null, 320), none, none, some (.ifCond .eq 13, 8, 18, .null, 0), none, none, some (.iload_n 2, 9, 0, .null, 0), some (.sipush 256, 12, 0, .int 256, 0), none, none, some (.invokestatic 98, 15, 77, .null, 320), none, none, some (.ifCond .ne 6, 18, 21, .null, 0)],
  [none, none, some (.bipush (-2), 20, 0, .int (-2), 0), none, some (.ireturn, 21, 0, .null, 0), some (.aload_n 0, 22, 0, .null, 0), some (.getfield 11, 25, 448, .null, 264), none, none, some (.iload_n 1, 26, 0, .null, 0), some (.aaload, 27, 0, .null, 0), some (.iload_n 2, 28, 0, .null, 0), some (.invokevirtual 102, 31, 27, .null, 323), none, none, some (.ifCond .ne 6, 34, 37, .null, 0)],
  [none, none, some (.bipush (-4), 36, 0, .int (-4), 0), none, some (.ireturn, 37, 0, .null, 0), some (.aload_n 0, 38, 0, .null, 0), some (.iload_n 1, 39, 0, .null, 0), some (.invokevirtual 106, 42, 81, .null, 327), none, none, some (.aload_n 0, 43, 0, .null, 0), some (.getfield 11, 46, 448, .null, 264), none, none, some (.iload_n 1, 47, 0, .null, 0), some (.aaload, 48, 0, .null, 0)],
  [some (.getfield 109, 51, 257, .null, 230), none, none, some (.ireturn, 52, 0, .null, 0)]])
def mX7_wipe : iMeth := (yX7_wipe, cX7_wipe, 3, (some .int), 1, 17, [352, 73, 350, 351], [
  [some (.iload_n 1, 1, 0, .null, 0), some (.iconst 3, 2, 0, .int 3, 0), some (.invokestatic 98, 5, 77, .null, 320), none, none, some (.ifCond .ne 6, 8, 11, .null, 0), none, none, some (.bipush (-2), 10, 0, .int (-2), 0), none, some (.ireturn, 11, 0, .null, 0), some (.aload_n 0, 12, 0, .null, 0), some (.getfield 11, 15, 448, .null, 264), none, none, some (.iload_n 1, 16, 0, .null, 0)],
  [some (.aaload, 17, 0, .null, 0), some (.getfield 109, 20, 257, .null, 230), none, none, some (.istore_n 2, 21, 0, .null, 0), some (.aload_n 0, 22, 0, .null, 0), some (.getfield 11, 25, 448, .null, 264), none, none, some (.iload_n 1, 26, 0, .null, 0), some (.aaload, 27, 0, .null, 0), some (.iconst 0, 28, 0, .int 0, 0), some (.putfield 109, 31, 257, .null, 230), none, none, some (.aload_n 0, 32, 0, .null, 0)],
  [some (.iload_n 1, 33, 0, .null, 0), some (.invokevirtual 106, 36, 81, .null, 327), none, none, some (.iload_n 2, 37, 0, .null, 0), some (.ireturn, 38, 0, .null, 0)]])
def mX7_undo : iMeth := (yX7_undo, cX7_undo, 2, (some .int), 1, 17, [356, 73, 354, 355], [
  [some (.iload_n 1, 1, 0, .null, 0), some (.iconst 3, 2, 0, .int 3, 0), some (.invokestatic 98, 5, 77, .null, 320), none, none, some (.ifCond .ne 6, 8, 11, .null, 0), none, none, some (.bipush (-2), 10, 0, .int (-2), 0), none, some (.ireturn, 11, 0, .null, 0), some (.aload_n 0, 12, 0, .null, 0), some (.getfield 11, 15, 448, .null, 264), none, none, some (.iload_n 1, 16, 0, .null, 0)],
  [some (.aaload, 17, 0, .null, 0), some (.getfield 109, 20, 257, .null, 230), none, none, some (.ifCond .ne 6, 23, 26, .null, 0), none, none, some (.bipush (-3), 25, 0, .int (-3), 0), none, some (.ireturn, 26, 0, .null, 0), some (.aload_n 0, 27, 0, .null, 0), some (.getfield 11, 30, 448, .null, 264), none, none, some (.iload_n 1, 31, 0, .null, 0), some (.aaload, 32, 0, .null, 0)],
  [some (.dup, 33, 0, .null, 0), some (.getfield 109, 36, 257, .null, 230), none, none, some (.iconst 1, 37, 0, .int 1, 0), some (.isub, 38, 0, .null, 0), some (.putfield 109, 41, 257, .null, 230), none, none, some (.aload_n 0, 42, 0, .null, 0), some (.iload_n 1, 43, 0, .null, 0), some (.invokevirtual 106, 46, 81, .null, 327), none, none, some (.aload_n 0, 47, 0, .null, 0), some (.getfield 11, 50, 448, .null, 264)],
  [none, none, some (.iload_n 1, 51, 0, .null, 0), some (.aaload, 52, 0, .null, 0), some (.getfield 109, 55, 257, .null, 230), none, none, some (.ireturn, 56, 0, .null, 0)]])
def mX7_fault : iMeth := (yX7_fault, cX7_fault, 2, (some .int), 1, 17, [360, 73, 358, 359], [
  [some (.iload_n 1, 1, 0, .null, 0), some (.iconst 3, 2, 0, .int 3, 0), some (.invokestatic 98, 5, 77, .null, 320), none, none, some (.ifCond .eq 12, 8, 17, .null, 0), none, none, some (.aload_n 0, 9, 0, .null, 0), some (.getfield 15, 12, 449, .null, 265), none, none, some (.iload_n 1, 13, 0, .null, 0), some (.iaload, 14, 0, .null, 0), some (.goto 5, 17, 19, .null, 0), none],
  [none, some (.bipush (-2), 19, 0, .int (-2), 0), none, some (.ireturn, 20, 0, .null, 0)]])
def mX7_span : iMeth := (yX7_span, cX7_span, 3, (some .int), 2, 17, [364, 73, 362, 363], [
  [some (.iload_n 1, 1, 0, .null, 0), some (.bipush 16, 3, 0, .int 16, 0), none, some (.invokestatic 98, 6, 77, .null, 320), none, none, some (.ifCond .eq 11, 9, 17, .null, 0), none, none, some (.iload_n 2, 10, 0, .null, 0), some (.iconst 2, 11, 0, .int 2, 0), some (.invokestatic 98, 14, 77, .null, 320), none, none, some (.ifCond .ne 6, 17, 20, .null, 0), none],
  [none, some (.bipush (-2), 19, 0, .int (-2), 0), none, some (.ireturn, 20, 0, .null, 0), some (.iload_n 2, 21, 0, .null, 0), some (.ifCond .ne 15, 24, 36, .null, 0), none, none, some (.aload_n 0, 25, 0, .null, 0), some (.getfield 22, 28, 450, .null, 266), none, none, some (.getfield 112, 31, 320, .null, 103), none, none, some (.iload_n 1, 32, 0, .null, 0)],
  [some (.iaload, 33, 0, .null, 0), some (.goto 12, 36, 45, .null, 0), none, none, some (.aload_n 0, 37, 0, .null, 0), some (.getfield 22, 40, 450, .null, 266), none, none, some (.getfield 115, 43, 321, .null, 105), none, none, some (.iload_n 1, 44, 0, .null, 0), some (.iaload, 45, 0, .null, 0), some (.ireturn, 46, 0, .null, 0)]])
def mX7_log : iMeth := (yX7_log, cX7_log, 3, (some .int), 2, 17, [368, 73, 366, 367], [
  [some (.aload_n 0, 1, 0, .null, 0), some (.iload_n 1, 2, 0, .null, 0), some (.invokevirtual 118, 5, 79, .null, 369), none, none, some (.ifCond .eq 11, 8, 16, .null, 0), none, none, some (.iload_n 2, 9, 0, .null, 0), some (.iconst 3, 10, 0, .int 3, 0), some (.invokestatic 98, 13, 77, .null, 320), none, none, some (.ifCond .ne 6, 16, 19, .null, 0), none, none],
  [some (.bipush (-2), 18, 0, .int (-2), 0), none, some (.ireturn, 19, 0, .null, 0), some (.iload_n 2, 20, 0, .null, 0), some (.ifCond .ne 13, 23, 33, .null, 0), none, none, some (.aload_n 0, 24, 0, .null, 0), some (.getfield 22, 27, 450, .null, 266), none, none, some (.getfield 121, 30, 322, .null, 108), none, none, some (.iload_n 1, 31, 0, .null, 0), some (.iaload, 32, 0, .null, 0)],
  [some (.ireturn, 33, 0, .null, 0), some (.iload_n 2, 34, 0, .null, 0), some (.iconst 1, 35, 0, .int 1, 0), some (.if_icmp .ne 15, 38, 50, .null, 0), none, none, some (.aload_n 0, 39, 0, .null, 0), some (.getfield 22, 42, 450, .null, 266), none, none, some (.getfield 124, 45, 323, .null, 111), none, none, some (.iload_n 1, 46, 0, .null, 0), some (.iaload, 47, 0, .null, 0), some (.goto 12, 50, 59, .null, 0)],
  [none, none, some (.aload_n 0, 51, 0, .null, 0), some (.getfield 22, 54, 450, .null, 266), none, none, some (.getfield 127, 57, 324, .null, 114), none, none, some (.iload_n 1, 58, 0, .null, 0), some (.iaload, 59, 0, .null, 0), some (.ireturn, 60, 0, .null, 0)]])
def mX7_event : iMeth := (yX7_event, cX7_event, 4, (some .int), 3, 17, [376, 73, 374, 375], [
  [some (.iload_n 1, 1, 0, .null, 0), some (.iload_n 2, 2, 0, .null, 0), some (.iload_n 3, 3, 0, .null, 0), some (.invokestatic 130, 6, 13, .null, 377), none, none, some (.ifCond .ne 6, 9, 12, .null, 0), none, none, some (.bipush (-2), 11, 0, .int (-2), 0), none, some (.ireturn, 12, 0, .null, 0), some (.aload_n 0, 13, 0, .null, 0), some (.getfield 29, 16, 451, .null, 267), none, none],
  [some (.iload_n 1, 17, 0, .null, 0), some (.iload_n 2, 18, 0, .null, 0), some (.iload_n 3, 19, 0, .null, 0), some (.invokevirtual 134, 22, 14, .null, 381), none, none, some (.ifCond .ne 6, 25, 28, .null, 0), none, none, some (.bipush (-4), 27, 0, .int (-4), 0), none, some (.ireturn, 28, 0, .null, 0), some (.aload_n 0, 29, 0, .null, 0), some (.invokevirtual 136, 32, 82, .null, 345), none, none],
  [some (.aload_n 0, 33, 0, .null, 0), some (.getfield 29, 36, 451, .null, 267), none, none, some (.getfield 139, 39, 67, .null, 142), none, none, some (.ireturn, 40, 0, .null, 0)]])
def mX7_back : iMeth := (yX7_back, cX7_back, 1, (some .int), 0, 17, [388, 73, 386, 387], [
  [some (.aload_n 0, 1, 0, .null, 0), some (.getfield 29, 4, 451, .null, 267), none, none, some (.getfield 139, 7, 67, .null, 142), none, none, some (.ifCond .ne 6, 10, 13, .null, 0), none, none, some (.bipush (-3), 12, 0, .int (-3), 0), none, some (.ireturn, 13, 0, .null, 0), some (.aload_n 0, 14, 0, .null, 0), some (.getfield 29, 17, 451, .null, 267), none],
  [none, some (.dup, 18, 0, .null, 0), some (.getfield 139, 21, 67, .null, 142), none, none, some (.iconst 1, 22, 0, .int 1, 0), some (.isub, 23, 0, .null, 0), some (.putfield 139, 26, 67, .null, 142), none, none, some (.aload_n 0, 27, 0, .null, 0), some (.invokevirtual 136, 30, 82, .null, 345), none, none, some (.aload_n 0, 31, 0, .null, 0), some (.getfield 29, 34, 451, .null, 267)],
  [none, none, some (.getfield 139, 37, 67, .null, 142), none, none, some (.ireturn, 38, 0, .null, 0)]])
def mX7_read : iMeth := (yX7_read, cX7_read, 6, (some .int), 1, 17, [392, 73, 390, 391], [
  [some (.iload_n 1, 1, 0, .null, 0), some (.iconst 4, 2, 0, .int 4, 0), some (.invokestatic 98, 5, 77, .null, 320), none, none, some (.ifCond .ne 6, 8, 11, .null, 0), none, none, some (.bipush (-2), 10, 0, .int (-2), 0), none, some (.ireturn, 11, 0, .null, 0), some (.aload_n 0, 12, 0, .null, 0), some (.getfield 42, 15, 453, .null, 269), none, none, some (.iload_n 1, 16, 0, .null, 0)],
  [some (.aaload, 17, 0, .null, 0), some (.astore_n 2, 18, 0, .null, 0), some (.aload_n 2, 19, 0, .null, 0), some (.invokevirtual 140, 22, 18, .null, 393), none, none, some (.ifCond .eq 9, 25, 31, .null, 0), none, none, some (.aload_n 0, 26, 0, .null, 0), some (.iconst 1, 27, 0, .int 1, 0), some (.invokevirtual 144, 30, 80, .null, 397), none, none, some (.ireturn, 31, 0, .null, 0), some (.iconst 0, 32, 0, .int 0, 0)],
  [some (.istore_n 3, 33, 0, .null, 0), some (.iconst 0, 34, 0, .int 0, 0), some (.istore 4, 36, 0, .null, 0), none, some (.iload 4, 38, 0, .null, 0), none, some (.iconst 2, 39, 0, .int 2, 0), some (.iadd, 40, 0, .null, 0), some (.aload_n 2, 41, 0, .null, 0), some (.getfield 148, 44, 130, .null, 248), none, none, some (.if_icmp .ge 75, 47, 119, .null, 0), none, none, some (.aload_n 2, 48, 0, .null, 0)],
  [some (.getfield 149, 51, 128, .null, 244), none, none, some (.astore 5, 53, 0, .null, 0), none, some (.aload 5, 55, 0, .null, 0), none, some (.iload 4, 57, 0, .null, 0), none, some (.iaload, 58, 0, .null, 0), some (.aload 5, 60, 0, .null, 0), none, some (.iload 4, 62, 0, .null, 0), none, some (.iconst 1, 63, 0, .int 1, 0), some (.iadd, 64, 0, .null, 0)],
  [some (.iaload, 65, 0, .null, 0), some (.aload 5, 67, 0, .null, 0), none, some (.iload 4, 69, 0, .null, 0), none, some (.iconst 2, 70, 0, .int 2, 0), some (.iadd, 71, 0, .null, 0), some (.iaload, 72, 0, .null, 0), some (.invokestatic 130, 75, 13, .null, 377), none, none, some (.ifCond .eq 44, 78, 119, .null, 0), none, none, some (.aload_n 0, 79, 0, .null, 0), some (.getfield 29, 82, 451, .null, 267)],
  [none, none, some (.aload 5, 84, 0, .null, 0), none, some (.iload 4, 86, 0, .null, 0), none, some (.iaload, 87, 0, .null, 0), some (.aload 5, 89, 0, .null, 0), none, some (.iload 4, 91, 0, .null, 0), none, some (.iconst 1, 92, 0, .int 1, 0), some (.iadd, 93, 0, .null, 0), some (.iaload, 94, 0, .null, 0), some (.aload 5, 96, 0, .null, 0), none],
  [some (.iload 4, 98, 0, .null, 0), none, some (.iconst 2, 99, 0, .int 2, 0), some (.iadd, 100, 0, .null, 0), some (.iaload, 101, 0, .null, 0), some (.invokevirtual 134, 104, 14, .null, 381), none, none, some (.ifCond .ne 6, 107, 110, .null, 0), none, none, some (.goto 12, 110, 119, .null, 0), none, none, some (.iinc 3 1, 113, 0, .int 1, 0), none],
  [none, some (.iinc 4 3, 116, 0, .int 3, 0), none, none, some (.goto (-80), 119, 36, .null, 0), none, none, some (.aload_n 0, 120, 0, .null, 0), some (.invokevirtual 136, 123, 82, .null, 345), none, none, some (.iload_n 3, 124, 0, .null, 0), some (.ireturn, 125, 0, .null, 0)]])
def mX7_flume : iMeth := (yX7_flume, cX7_flume, 4, (some .int), 3, 17, [404, 73, 402, 403], [
  [some (.iload_n 1, 1, 0, .null, 0), some (.bipush 24, 3, 0, .int 24, 0), none, some (.invokestatic 98, 6, 77, .null, 320), none, none, some (.ifCond .eq 20, 9, 26, .null, 0), none, none, some (.iload_n 2, 10, 0, .null, 0), some (.bipush 16, 12, 0, .int 16, 0), none, some (.invokestatic 98, 15, 77, .null, 320), none, none, some (.ifCond .eq 11, 18, 26, .null, 0)],
  [none, none, some (.iload_n 3, 19, 0, .null, 0), some (.iconst 2, 20, 0, .int 2, 0), some (.invokestatic 98, 23, 77, .null, 320), none, none, some (.ifCond .ne 6, 26, 29, .null, 0), none, none, some (.bipush (-2), 28, 0, .int (-2), 0), none, some (.ireturn, 29, 0, .null, 0), some (.aload_n 0, 30, 0, .null, 0), some (.invokevirtual 152, 33, 83, .null, 405), none],
  [none, some (.iload_n 3, 34, 0, .null, 0), some (.ifCond .ne 20, 37, 54, .null, 0), none, none, some (.aload_n 0, 38, 0, .null, 0), some (.getfield 57, 41, 456, .null, 272), none, none, some (.getfield 155, 44, 384, .null, 182), none, none, some (.iload_n 1, 45, 0, .null, 0), some (.bipush 16, 47, 0, .int 16, 0), none, some (.imul, 48, 0, .null, 0)],
  [some (.iload_n 2, 49, 0, .null, 0), some (.iadd, 50, 0, .null, 0), some (.iaload, 51, 0, .null, 0), some (.goto 16, 54, 67, .null, 0), none, none, some (.aload_n 0, 55, 0, .null, 0), some (.getfield 64, 58, 457, .null, 273), none, none, some (.aload_n 0, 59, 0, .null, 0), some (.getfield 22, 62, 450, .null, 266), none, none, some (.iload_n 1, 63, 0, .null, 0), some (.iload_n 2, 64, 0, .null, 0)],
  [some (.invokevirtual 158, 67, 5, .null, 447), none, none, some (.ireturn, 68, 0, .null, 0)]])
def mX7_at : iMeth := (yX7_at, cX7_at, 5, (some .int), 3, 17, [454, 73, 452, 453], [
  [some (.iload_n 1, 1, 0, .null, 0), some (.bipush 24, 3, 0, .int 24, 0), none, some (.invokestatic 98, 6, 77, .null, 320), none, none, some (.ifCond .eq 19, 9, 25, .null, 0), none, none, some (.aload_n 0, 10, 0, .null, 0), some (.iload_n 2, 11, 0, .null, 0), some (.invokevirtual 118, 14, 79, .null, 369), none, none, some (.ifCond .eq 11, 17, 25, .null, 0), none],
  [none, some (.iload_n 3, 18, 0, .null, 0), some (.iconst 2, 19, 0, .int 2, 0), some (.invokestatic 98, 22, 77, .null, 320), none, none, some (.ifCond .ne 6, 25, 28, .null, 0), none, none, some (.bipush (-2), 27, 0, .int (-2), 0), none, some (.ireturn, 28, 0, .null, 0), some (.aload_n 0, 29, 0, .null, 0), some (.invokevirtual 152, 32, 83, .null, 405), none, none],
  [some (.iload_n 1, 33, 0, .null, 0), some (.bipush 8, 35, 0, .int 8, 0), none, some (.imul, 36, 0, .null, 0), some (.iload_n 2, 37, 0, .null, 0), some (.iadd, 38, 0, .null, 0), some (.istore 4, 40, 0, .null, 0), none, some (.iload_n 3, 41, 0, .null, 0), some (.ifCond .ne 16, 44, 57, .null, 0), none, none, some (.aload_n 0, 45, 0, .null, 0), some (.getfield 64, 48, 457, .null, 273), none, none],
  [some (.getfield 162, 51, 0, .null, 199), none, none, some (.iload 4, 53, 0, .null, 0), none, some (.iaload, 54, 0, .null, 0), some (.goto 13, 57, 67, .null, 0), none, none, some (.aload_n 0, 58, 0, .null, 0), some (.getfield 64, 61, 457, .null, 273), none, none, some (.getfield 165, 64, 1, .null, 201), none, none],
  [some (.iload 4, 66, 0, .null, 0), none, some (.iaload, 67, 0, .null, 0), some (.ireturn, 68, 0, .null, 0)]])
def mX7_all : iMeth := (yX7_all, cX7_all, 3, (some .int), 2, 17, [458, 73, 456, 457], [
  [some (.iload_n 1, 1, 0, .null, 0), some (.bipush 24, 3, 0, .int 24, 0), none, some (.invokestatic 98, 6, 77, .null, 320), none, none, some (.ifCond .eq 11, 9, 17, .null, 0), none, none, some (.iload_n 2, 10, 0, .null, 0), some (.iconst 2, 11, 0, .int 2, 0), some (.invokestatic 98, 14, 77, .null, 320), none, none, some (.ifCond .ne 6, 17, 20, .null, 0), none],
  [none, some (.bipush (-2), 19, 0, .int (-2), 0), none, some (.ireturn, 20, 0, .null, 0), some (.aload_n 0, 21, 0, .null, 0), some (.invokevirtual 152, 24, 83, .null, 405), none, none, some (.iload_n 2, 25, 0, .null, 0), some (.ifCond .ne 14, 28, 39, .null, 0), none, none, some (.aload_n 0, 29, 0, .null, 0), some (.getfield 57, 32, 456, .null, 272), none, none],
  [some (.iload_n 1, 33, 0, .null, 0), some (.invokevirtual 168, 36, 38, .null, 459), none, none, some (.goto 15, 39, 51, .null, 0), none, none, some (.aload_n 0, 40, 0, .null, 0), some (.getfield 64, 43, 457, .null, 273), none, none, some (.aload_n 0, 44, 0, .null, 0), some (.getfield 22, 47, 450, .null, 266), none, none, some (.iload_n 1, 48, 0, .null, 0)],
  [some (.invokevirtual 171, 51, 6, .null, 463), none, none, some (.ireturn, 52, 0, .null, 0)]])
def mX7_out : iMeth := (yX7_out, cX7_out, 3, (some .int), 2, 17, [470, 73, 468, 469], [
  [some (.aload_n 0, 1, 0, .null, 0), some (.iload_n 1, 2, 0, .null, 0), some (.invokevirtual 118, 5, 79, .null, 369), none, none, some (.ifCond .eq 11, 8, 16, .null, 0), none, none, some (.iload_n 2, 9, 0, .null, 0), some (.iconst 3, 10, 0, .int 3, 0), some (.invokestatic 98, 13, 77, .null, 320), none, none, some (.ifCond .ne 6, 16, 19, .null, 0), none, none],
  [some (.bipush (-2), 18, 0, .int (-2), 0), none, some (.ireturn, 19, 0, .null, 0), some (.aload_n 0, 20, 0, .null, 0), some (.invokevirtual 152, 23, 83, .null, 405), none, none, some (.iload_n 2, 24, 0, .null, 0), some (.ifCond .ne 12, 27, 36, .null, 0), none, none, some (.aload_n 0, 28, 0, .null, 0), some (.getfield 64, 31, 457, .null, 273), none, none, some (.iload_n 1, 32, 0, .null, 0)],
  [some (.invokevirtual 175, 35, 7, .null, 471), none, none, some (.ireturn, 36, 0, .null, 0), some (.aload_n 0, 37, 0, .null, 0), some (.getfield 64, 40, 457, .null, 273), none, none, some (.iload_n 1, 41, 0, .null, 0), some (.iload_n 2, 42, 0, .null, 0), some (.iconst 1, 43, 0, .int 1, 0), some (.if_icmp .ne 7, 46, 50, .null, 0), none, none, some (.iconst 1, 47, 0, .int 1, 0), some (.goto 4, 50, 51, .null, 0)],
  [none, none, some (.iconst 2, 51, 0, .int 2, 0), some (.invokevirtual 178, 54, 8, .null, 475), none, none, some (.ireturn, 55, 0, .null, 0)]])
def mX7_jam : iMeth := (yX7_jam, cX7_jam, 3, (some .int), 0, 17, [482, 73, 480, 481], [
  [some (.aload_n 0, 1, 0, .null, 0), some (.invokevirtual 152, 4, 83, .null, 405), none, none, some (.iconst 0, 5, 0, .int 0, 0), some (.istore_n 1, 6, 0, .null, 0), some (.iload_n 1, 7, 0, .null, 0), some (.bipush 24, 9, 0, .int 24, 0), none, some (.if_icmp .ge 48, 12, 57, .null, 0), none, none, some (.iconst 0, 13, 0, .int 0, 0), some (.istore_n 2, 14, 0, .null, 0), some (.iload_n 2, 15, 0, .null, 0), some (.aload_n 0, 16, 0, .null, 0)],
  [some (.getfield 22, 19, 450, .null, 266), none, none, some (.getfield 182, 22, 325, .null, 117), none, none, some (.if_icmp .ge 29, 25, 51, .null, 0), none, none, some (.aload_n 0, 26, 0, .null, 0), some (.getfield 64, 29, 457, .null, 273), none, none, some (.getfield 165, 32, 1, .null, 201), none, none],
  [some (.iload_n 1, 33, 0, .null, 0), some (.bipush 8, 35, 0, .int 8, 0), none, some (.imul, 36, 0, .null, 0), some (.iload_n 2, 37, 0, .null, 0), some (.iadd, 38, 0, .null, 0), some (.iaload, 39, 0, .null, 0), some (.iconst 2, 40, 0, .int 2, 0), some (.if_icmp .ne 5, 43, 45, .null, 0), none, none, some (.iload_n 1, 44, 0, .null, 0), some (.ireturn, 45, 0, .null, 0), some (.iinc 2 1, 48, 0, .int 1, 0), none, none],
  [some (.goto (-34), 51, 14, .null, 0), none, none, some (.iinc 1 1, 54, 0, .int 1, 0), none, none, some (.goto (-48), 57, 6, .null, 0), none, none, some (.iconst (-1), 58, 0, .int (-1), 0), some (.ireturn, 59, 0, .null, 0)]])
def mX7_left : iMeth := (yX7_left, cX7_left, 2, (some .int), 1, 17, [486, 73, 484, 485], [
  [some (.iload_n 1, 1, 0, .null, 0), some (.iconst 2, 2, 0, .int 2, 0), some (.invokestatic 98, 5, 77, .null, 320), none, none, some (.ifCond .ne 6, 8, 11, .null, 0), none, none, some (.bipush (-2), 10, 0, .int (-2), 0), none, some (.ireturn, 11, 0, .null, 0), some (.aload_n 0, 12, 0, .null, 0), some (.invokevirtual 152, 15, 83, .null, 405), none, none, some (.iload_n 1, 16, 0, .null, 0)],
  [some (.ifCond .ne 13, 19, 29, .null, 0), none, none, some (.aload_n 0, 20, 0, .null, 0), some (.getfield 57, 23, 456, .null, 272), none, none, some (.invokevirtual 185, 26, 39, .null, 487), none, none, some (.goto 24, 29, 50, .null, 0), none, none, some (.aload_n 0, 30, 0, .null, 0), some (.getfield 22, 33, 450, .null, 266), none],
  [none, some (.invokevirtual 189, 36, 35, .null, 492), none, none, some (.aload_n 0, 37, 0, .null, 0), some (.getfield 64, 40, 457, .null, 273), none, none, some (.aload_n 0, 41, 0, .null, 0), some (.getfield 22, 44, 450, .null, 266), none, none, some (.invokevirtual 192, 47, 10, .null, 493), none, none, some (.iconst (-1), 48, 0, .int (-1), 0)],
  [some (.ixor, 49, 0, .null, 0), some (.iand, 50, 0, .null, 0), some (.ireturn, 51, 0, .null, 0)]])
def mX7_worst : iMeth := (yX7_worst, cX7_worst, 5, (some .int), 0, 17, [500, 73, 498, 499], [
  [some (.aload_n 0, 1, 0, .null, 0), some (.invokevirtual 152, 4, 83, .null, 405), none, none, some (.iconst (-1), 5, 0, .int (-1), 0), some (.istore_n 1, 6, 0, .null, 0), some (.iconst 0, 7, 0, .int 0, 0), some (.istore_n 2, 8, 0, .null, 0), some (.iconst 0, 9, 0, .int 0, 0), some (.istore_n 3, 10, 0, .null, 0), some (.iload_n 3, 11, 0, .null, 0), some (.aload_n 0, 12, 0, .null, 0), some (.getfield 22, 15, 450, .null, 266), none, none, some (.getfield 182, 18, 325, .null, 117)],
  [none, none, some (.if_icmp .ge 31, 21, 49, .null, 0), none, none, some (.aload_n 0, 22, 0, .null, 0), some (.getfield 64, 25, 457, .null, 273), none, none, some (.iload_n 3, 26, 0, .null, 0), some (.iconst 1, 27, 0, .int 1, 0), some (.invokevirtual 178, 30, 8, .null, 475), none, none, some (.istore 4, 32, 0, .null, 0), none],
  [some (.iload 4, 34, 0, .null, 0), none, some (.iload_n 2, 35, 0, .null, 0), some (.if_icmp .le 8, 38, 43, .null, 0), none, none, some (.iload 4, 40, 0, .null, 0), none, some (.istore_n 2, 41, 0, .null, 0), some (.iload_n 3, 42, 0, .null, 0), some (.istore_n 1, 43, 0, .null, 0), some (.iinc 3 1, 46, 0, .int 1, 0), none, none, some (.goto (-36), 49, 10, .null, 0), none],
  [none, some (.iload_n 1, 50, 0, .null, 0), some (.ireturn, 51, 0, .null, 0)]])
def mX7_send : iMeth := (yX7_send, cX7_send, 3, (some .int), 2, 17, [504, 73, 502, 503], [
  [some (.aload_n 0, 1, 0, .null, 0), some (.iload_n 1, 2, 0, .null, 0), some (.invokevirtual 118, 5, 79, .null, 369), none, none, some (.ifCond .eq 11, 8, 16, .null, 0), none, none, some (.iload_n 2, 9, 0, .null, 0), some (.iconst 2, 10, 0, .int 2, 0), some (.invokestatic 98, 13, 77, .null, 320), none, none, some (.ifCond .ne 6, 16, 19, .null, 0), none, none],
  [some (.bipush (-2), 18, 0, .int (-2), 0), none, some (.ireturn, 19, 0, .null, 0), some (.aload_n 0, 20, 0, .null, 0), some (.iload_n 1, 21, 0, .null, 0), some (.invokevirtual 196, 24, 86, .null, 505), none, none, some (.iload_n 2, 25, 0, .null, 0), some (.ifCond .ne 10, 28, 35, .null, 0), none, none, some (.aload_n 0, 29, 0, .null, 0), some (.getfield 84, 32, 463, .null, 279), none, none],
  [some (.goto 7, 35, 39, .null, 0), none, none, some (.aload_n 0, 36, 0, .null, 0), some (.getfield 87, 39, 464, .null, 280), none, none, some (.ireturn, 40, 0, .null, 0)]])
def mX7_steep : iMeth := (yX7_steep, cX7_steep, 2, (some .int), 1, 17, [526, 73, 524, 525], [
  [some (.iload_n 1, 1, 0, .null, 0), some (.iconst 2, 2, 0, .int 2, 0), some (.invokestatic 98, 5, 77, .null, 320), none, none, some (.ifCond .ne 6, 8, 11, .null, 0), none, none, some (.bipush (-2), 10, 0, .int (-2), 0), none, some (.ireturn, 11, 0, .null, 0), some (.aload_n 0, 12, 0, .null, 0), some (.invokevirtual 199, 15, 87, .null, 527), none, none, some (.iload_n 1, 16, 0, .null, 0)],
  [some (.ifCond .ne 10, 19, 26, .null, 0), none, none, some (.aload_n 0, 20, 0, .null, 0), some (.getfield 84, 23, 463, .null, 279), none, none, some (.goto 7, 26, 30, .null, 0), none, none, some (.aload_n 0, 27, 0, .null, 0), some (.getfield 87, 30, 464, .null, 280), none, none, some (.ireturn, 31, 0, .null, 0)]])
def mX7_fill : iMeth := (yX7_fill, cX7_fill, 2, (some .int), 1, 17, [535, 73, 533, 534], [
  [some (.iload_n 1, 1, 0, .null, 0), some (.iconst 2, 2, 0, .int 2, 0), some (.invokestatic 98, 5, 77, .null, 320), none, none, some (.ifCond .ne 6, 8, 11, .null, 0), none, none, some (.bipush (-2), 10, 0, .int (-2), 0), none, some (.ireturn, 11, 0, .null, 0), some (.aload_n 0, 12, 0, .null, 0), some (.invokevirtual 202, 15, 88, .null, 536), none, none, some (.iload_n 1, 16, 0, .null, 0)],
  [some (.ifCond .ne 10, 19, 26, .null, 0), none, none, some (.aload_n 0, 20, 0, .null, 0), some (.getfield 84, 23, 463, .null, 279), none, none, some (.goto 7, 26, 30, .null, 0), none, none, some (.aload_n 0, 27, 0, .null, 0), some (.getfield 87, 30, 464, .null, 280), none, none, some (.ireturn, 31, 0, .null, 0)]])
def mX7_spare : iMeth := (yX7_spare, cX7_spare, 3, (some .int), 1, 17, [543, 73, 541, 542], [
  [some (.iload_n 1, 1, 0, .null, 0), some (.iconst (-1), 2, 0, .int (-1), 0), some (.if_icmp .lt 8, 5, 10, .null, 0), none, none, some (.iload_n 1, 6, 0, .null, 0), some (.iconst 1, 7, 0, .int 1, 0), some (.if_icmp .le 6, 10, 13, .null, 0), none, none, some (.bipush (-2), 12, 0, .int (-2), 0), none, some (.ireturn, 13, 0, .null, 0), some (.aload_n 0, 14, 0, .null, 0), some (.invokevirtual 205, 17, 89, .null, 544), none],
  [none, some (.istore_n 2, 18, 0, .null, 0), some (.iload_n 2, 19, 0, .null, 0), some (.iconst (-1), 20, 0, .int (-1), 0), some (.if_icmp .ne 5, 23, 25, .null, 0), none, none, some (.iconst (-1), 24, 0, .int (-1), 0), some (.ireturn, 25, 0, .null, 0), some (.iload_n 1, 26, 0, .null, 0), some (.iconst (-1), 27, 0, .int (-1), 0), some (.if_icmp .ne 10, 30, 37, .null, 0), none, none, some (.iload_n 2, 31, 0, .null, 0), some (.invokestatic 208, 34, 199, .null, 517)],
  [none, none, some (.goto 8, 37, 42, .null, 0), none, none, some (.iload_n 2, 38, 0, .null, 0), some (.iload_n 1, 39, 0, .null, 0), some (.invokestatic 213, 42, 78, .null, 552), none, none, some (.ireturn, 43, 0, .null, 0)]])
def mX7_seen : iMeth := (yX7_seen, cX7_seen, 4, (some .int), 3, 17, [558, 73, 556, 557], [
  [some (.iload_n 1, 1, 0, .null, 0), some (.bipush 24, 3, 0, .int 24, 0), none, some (.invokestatic 98, 6, 77, .null, 320), none, none, some (.ifCond .eq 21, 9, 27, .null, 0), none, none, some (.iload_n 2, 10, 0, .null, 0), some (.bipush 16, 12, 0, .int 16, 0), none, some (.invokestatic 98, 15, 77, .null, 320), none, none, some (.ifCond .eq 12, 18, 27, .null, 0)],
  [none, none, some (.iload_n 3, 19, 0, .null, 0), some (.bipush 9, 21, 0, .int 9, 0), none, some (.invokestatic 98, 24, 77, .null, 320), none, none, some (.ifCond .ne 6, 27, 30, .null, 0), none, none, some (.bipush (-2), 29, 0, .int (-2), 0), none, some (.ireturn, 30, 0, .null, 0), some (.aload_n 0, 31, 0, .null, 0), some (.getfield 36, 34, 452, .null, 268)],
  [none, none, some (.iload_n 1, 35, 0, .null, 0), some (.iload_n 2, 36, 0, .null, 0), some (.iload_n 3, 37, 0, .null, 0), some (.invokevirtual 216, 40, 24, .null, 559), none, none, some (.ifCond .ne 6, 43, 46, .null, 0), none, none, some (.bipush (-4), 45, 0, .int (-4), 0), none, some (.ireturn, 46, 0, .null, 0), some (.aload_n 0, 47, 0, .null, 0), some (.getfield 36, 50, 452, .null, 268)],
  [none, none, some (.getfield 217, 53, 195, .null, 162), none, none, some (.ireturn, 54, 0, .null, 0)]])
def mX7_forget : iMeth := (yX7_forget, cX7_forget, 2, (some .int), 0, 17, [567, 73, 565, 566], [
  [some (.aload_n 0, 1, 0, .null, 0), some (.getfield 36, 4, 452, .null, 268), none, none, some (.getfield 217, 7, 195, .null, 162), none, none, some (.istore_n 1, 8, 0, .null, 0), some (.aload_n 0, 9, 0, .null, 0), some (.getfield 36, 12, 452, .null, 268), none, none, some (.iconst 0, 13, 0, .int 0, 0), some (.putfield 217, 16, 195, .null, 162), none, none],
  [some (.iload_n 1, 17, 0, .null, 0), some (.ireturn, 18, 0, .null, 0)]])
def mX7_never : iMeth := (yX7_never, cX7_never, 4, (some .int), 0, 17, [571, 73, 569, 570], [
  [some (.iconst 0, 1, 0, .int 0, 0), some (.istore_n 1, 2, 0, .null, 0), some (.iconst 0, 3, 0, .int 0, 0), some (.istore_n 2, 4, 0, .null, 0), some (.iload_n 2, 5, 0, .null, 0), some (.aload_n 0, 6, 0, .null, 0), some (.getfield 29, 9, 451, .null, 267), none, none, some (.getfield 139, 12, 67, .null, 142), none, none, some (.if_icmp .ge 86, 15, 98, .null, 0), none, none, some (.aload_n 0, 16, 0, .null, 0)],
  [some (.getfield 29, 19, 451, .null, 267), none, none, some (.invokevirtual 218, 22, 15, .null, 409), none, none, some (.iconst 1, 23, 0, .int 1, 0), some (.iload_n 2, 24, 0, .null, 0), some (.ishl, 25, 0, .null, 0), some (.iconst (-1), 26, 0, .int (-1), 0), some (.ixor, 27, 0, .null, 0), some (.iand, 28, 0, .null, 0), some (.istore_n 3, 29, 0, .null, 0), some (.aload_n 0, 30, 0, .null, 0), some (.getfield 68, 33, 458, .null, 274), none],
  [none, some (.aload_n 0, 34, 0, .null, 0), some (.getfield 22, 37, 450, .null, 266), none, none, some (.getfield 115, 40, 321, .null, 105), none, none, some (.aload_n 0, 41, 0, .null, 0), some (.getfield 29, 44, 451, .null, 267), none, none, some (.iload_n 3, 45, 0, .null, 0), some (.invokevirtual 221, 48, 37, .null, 413), none, none],
  [some (.aload_n 0, 49, 0, .null, 0), some (.getfield 71, 52, 459, .null, 275), none, none, some (.aload_n 0, 53, 0, .null, 0), some (.getfield 22, 56, 450, .null, 266), none, none, some (.aload_n 0, 57, 0, .null, 0), some (.getfield 68, 60, 458, .null, 274), none, none, some (.aload_n 0, 61, 0, .null, 0), some (.getfield 29, 64, 451, .null, 267), none, none],
  [some (.iload_n 3, 65, 0, .null, 0), some (.invokevirtual 225, 68, 1, .null, 424), none, none, some (.aload_n 0, 69, 0, .null, 0), some (.getfield 36, 72, 452, .null, 268), none, none, some (.aload_n 0, 73, 0, .null, 0), some (.getfield 22, 76, 450, .null, 266), none, none, some (.aload_n 0, 77, 0, .null, 0), some (.getfield 71, 80, 459, .null, 275), none, none],
  [some (.invokevirtual 229, 83, 25, .null, 572), none, none, some (.ifCond .eq 9, 86, 92, .null, 0), none, none, some (.iload_n 1, 87, 0, .null, 0), some (.iconst 1, 88, 0, .int 1, 0), some (.iload_n 2, 89, 0, .null, 0), some (.ishl, 90, 0, .null, 0), some (.ior, 91, 0, .null, 0), some (.istore_n 1, 92, 0, .null, 0), some (.iinc 2 1, 95, 0, .int 1, 0), none, none, some (.goto (-91), 98, 4, .null, 0)],
  [none, none, some (.iload_n 1, 99, 0, .null, 0), some (.ireturn, 100, 0, .null, 0)]])
def mX7_draughts : iMeth := (yX7_draughts, cX7_draughts, 2, (some .int), 1, 17, [580, 73, 578, 579], [
  [some (.aload_n 0, 1, 0, .null, 0), some (.iload_n 1, 2, 0, .null, 0), some (.invokevirtual 118, 5, 79, .null, 369), none, none, some (.ifCond .ne 6, 8, 11, .null, 0), none, none, some (.bipush (-2), 10, 0, .int (-2), 0), none, some (.ireturn, 11, 0, .null, 0), some (.aload_n 0, 12, 0, .null, 0), some (.iload_n 1, 13, 0, .null, 0), some (.invokevirtual 233, 16, 92, .null, 581), none, none],
  [some (.ireturn, 17, 0, .null, 0)]])
def mX7_grade : iMeth := (yX7_grade, cX7_grade, 5, (some .int), 1, 17, [592, 73, 590, 591], [
  [some (.iload_n 1, 1, 0, .null, 0), some (.bipush 16, 3, 0, .int 16, 0), none, some (.invokestatic 98, 6, 77, .null, 320), none, none, some (.ifCond .ne 6, 9, 12, .null, 0), none, none, some (.bipush (-2), 11, 0, .int (-2), 0), none, some (.ireturn, 12, 0, .null, 0), some (.aload_n 0, 13, 0, .null, 0), some (.invokevirtual 152, 16, 83, .null, 405), none, none],
  [some (.aload_n 0, 17, 0, .null, 0), some (.getfield 22, 20, 450, .null, 266), none, none, some (.getfield 112, 23, 320, .null, 103), none, none, some (.iload_n 1, 24, 0, .null, 0), some (.iaload, 25, 0, .null, 0), some (.istore_n 2, 26, 0, .null, 0), some (.iconst 0, 27, 0, .int 0, 0), some (.istore_n 3, 28, 0, .null, 0), some (.iconst 1, 29, 0, .int 1, 0), some (.istore 4, 31, 0, .null, 0), none, some (.iload 4, 33, 0, .null, 0)],
  [none, some (.iconst 3, 34, 0, .int 3, 0), some (.if_icmp .gt 71, 37, 105, .null, 0), none, none, some (.aload_n 0, 38, 0, .null, 0), some (.getfield 22, 41, 450, .null, 266), none, none, some (.getfield 112, 44, 320, .null, 103), none, none, some (.iload_n 1, 45, 0, .null, 0), some (.iload 4, 47, 0, .null, 0), none, some (.iastore, 48, 0, .null, 0)],
  [some (.aload_n 0, 49, 0, .null, 0), some (.getfield 71, 52, 459, .null, 275), none, none, some (.aload_n 0, 53, 0, .null, 0), some (.getfield 22, 56, 450, .null, 266), none, none, some (.aload_n 0, 57, 0, .null, 0), some (.getfield 57, 60, 456, .null, 272), none, none, some (.aload_n 0, 61, 0, .null, 0), some (.getfield 29, 64, 451, .null, 267), none, none],
  [some (.aload_n 0, 65, 0, .null, 0), some (.getfield 29, 68, 451, .null, 267), none, none, some (.invokevirtual 218, 71, 15, .null, 409), none, none, some (.invokevirtual 225, 74, 1, .null, 424), none, none, some (.aload_n 0, 75, 0, .null, 0), some (.getfield 36, 78, 452, .null, 268), none, none, some (.aload_n 0, 79, 0, .null, 0), some (.getfield 22, 82, 450, .null, 266)],
  [none, none, some (.aload_n 0, 83, 0, .null, 0), some (.getfield 71, 86, 459, .null, 275), none, none, some (.invokevirtual 229, 89, 25, .null, 572), none, none, some (.ifCond .eq 10, 92, 99, .null, 0), none, none, some (.iload_n 3, 93, 0, .null, 0), some (.iconst 1, 94, 0, .int 1, 0), some (.iload 4, 96, 0, .null, 0), none],
  [some (.ishl, 97, 0, .null, 0), some (.ior, 98, 0, .null, 0), some (.istore_n 3, 99, 0, .null, 0), some (.iinc 4 1, 102, 0, .int 1, 0), none, none, some (.goto (-71), 105, 31, .null, 0), none, none, some (.aload_n 0, 106, 0, .null, 0), some (.getfield 22, 109, 450, .null, 266), none, none, some (.getfield 112, 112, 320, .null, 103), none, none],
  [some (.iload_n 1, 113, 0, .null, 0), some (.iload_n 2, 114, 0, .null, 0), some (.iastore, 115, 0, .null, 0), some (.iload_n 3, 116, 0, .null, 0), some (.ireturn, 117, 0, .null, 0)]])
def mX7_ask : iMeth := (yX7_ask, cX7_ask, 7, (some .int), 1, 17, [596, 73, 594, 595], [
  [some (.aload_n 0, 1, 0, .null, 0), some (.iload_n 1, 2, 0, .null, 0), some (.invokevirtual 118, 5, 79, .null, 369), none, none, some (.ifCond .ne 6, 8, 11, .null, 0), none, none, some (.bipush (-2), 10, 0, .int (-2), 0), none, some (.ireturn, 11, 0, .null, 0), some (.aload_n 0, 12, 0, .null, 0), some (.iload_n 1, 13, 0, .null, 0), some (.invokevirtual 233, 16, 92, .null, 581), none, none],
  [some (.istore_n 2, 17, 0, .null, 0), some (.iconst 0, 18, 0, .int 0, 0), some (.istore_n 3, 19, 0, .null, 0), some (.bipush 10, 21, 0, .int 10, 0), none, some (.istore 4, 23, 0, .null, 0), none, some (.iconst 0, 24, 0, .int 0, 0), some (.istore 5, 26, 0, .null, 0), none, some (.iload 5, 28, 0, .null, 0), none, some (.bipush 24, 30, 0, .int 24, 0), none, some (.if_icmp .ge 32, 33, 62, .null, 0), none],
  [none, some (.aload_n 0, 34, 0, .null, 0), some (.iload_n 2, 35, 0, .null, 0), some (.iload 5, 37, 0, .null, 0), none, some (.invokevirtual 236, 40, 93, .null, 597), none, none, some (.istore 6, 42, 0, .null, 0), none, some (.iload 6, 44, 0, .null, 0), none, some (.iload 4, 46, 0, .null, 0), none, some (.if_icmp .ge 10, 49, 56, .null, 0), none],
  [none, some (.iload 6, 51, 0, .null, 0), none, some (.istore 4, 53, 0, .null, 0), none, some (.iload 5, 55, 0, .null, 0), none, some (.istore_n 3, 56, 0, .null, 0), some (.iinc 5 1, 59, 0, .int 1, 0), none, none, some (.goto (-33), 62, 26, .null, 0), none, none, some (.iload_n 3, 63, 0, .null, 0), some (.ireturn, 64, 0, .null, 0)]])
def mX7_chance : iMeth := (yX7_chance, cX7_chance, 9, (some .long), 3, 17, [605, 73, 603, 604], [
  [some (.iload_n 1, 1, 0, .null, 0), some (.bipush 17, 3, 0, .int 17, 0), none, some (.invokestatic 98, 6, 77, .null, 320), none, none, some (.ifCond .eq 19, 9, 25, .null, 0), none, none, some (.aload_n 0, 10, 0, .null, 0), some (.iload_n 2, 11, 0, .null, 0), some (.invokevirtual 118, 14, 79, .null, 369), none, none, some (.ifCond .eq 11, 17, 25, .null, 0), none],
  [none, some (.iload_n 3, 18, 0, .null, 0), some (.iconst 2, 19, 0, .int 2, 0), some (.invokestatic 98, 22, 77, .null, 320), none, none, some (.ifCond .ne 7, 25, 29, .null, 0), none, none, some (.ldc2_w 241, 28, 0, .long (-9223372036854775806), 606), none, none, some (.lreturn, 29, 0, .null, 0), some (.aload_n 0, 30, 0, .null, 0), some (.iload_n 1, 31, 0, .null, 0), some (.iload_n 2, 32, 0, .null, 0)],
  [some (.invokevirtual 243, 35, 91, .null, 607), none, none, some (.lstore 4, 37, 0, .null, 0), none, some (.lload 4, 39, 0, .null, 0), none, some (.lconst 0, 40, 0, .long 0, 0), some (.lcmp, 41, 0, .null, 0), some (.ifCond .ne 13, 44, 54, .null, 0), none, none, some (.iload_n 3, 45, 0, .null, 0), some (.ifCond .ne 7, 48, 52, .null, 0), none, none],
  [some (.lconst 0, 49, 0, .long 0, 0), some (.goto 4, 52, 53, .null, 0), none, none, some (.lconst 1, 53, 0, .long 1, 0), some (.lreturn, 54, 0, .null, 0), some (.lconst 1, 55, 0, .long 1, 0), some (.iconst 4, 56, 0, .int 4, 0), some (.aload_n 0, 57, 0, .null, 0), some (.getfield 29, 60, 451, .null, 267), none, none, some (.getfield 139, 63, 67, .null, 142), none, none, some (.imul, 64, 0, .null, 0)],
  [some (.lshl, 65, 0, .null, 0), some (.lstore 6, 67, 0, .null, 0), none, some (.iconst 0, 68, 0, .int 0, 0), some (.istore 8, 70, 0, .null, 0), none, some (.iload 8, 72, 0, .null, 0), none, some (.bipush 32, 74, 0, .int 32, 0), none, some (.if_icmp .ge 47, 77, 121, .null, 0), none, none, some (.lload 4, 79, 0, .null, 0), none, some (.ldc2_w 247, 82, 0, .long 2, 611)],
  [none, none, some (.lrem, 83, 0, .null, 0), some (.lconst 0, 84, 0, .long 0, 0), some (.lcmp, 85, 0, .null, 0), some (.ifCond .ne 36, 88, 121, .null, 0), none, none, some (.lload 6, 90, 0, .null, 0), none, some (.ldc2_w 247, 93, 0, .long 2, 611), none, none, some (.lrem, 94, 0, .null, 0), some (.lconst 0, 95, 0, .long 0, 0), some (.lcmp, 96, 0, .null, 0)],
  [some (.ifCond .ne 25, 99, 121, .null, 0), none, none, some (.lload 4, 101, 0, .null, 0), none, some (.ldc2_w 247, 104, 0, .long 2, 611), none, none, some (.ldiv, 105, 0, .null, 0), some (.lstore 4, 107, 0, .null, 0), none, some (.lload 6, 109, 0, .null, 0), none, some (.ldc2_w 247, 112, 0, .long 2, 611), none, none],
  [some (.ldiv, 113, 0, .null, 0), some (.lstore 6, 115, 0, .null, 0), none, some (.iinc 8 1, 118, 0, .int 1, 0), none, none, some (.goto (-48), 121, 70, .null, 0), none, none, some (.iload_n 3, 122, 0, .null, 0), some (.ifCond .ne 8, 125, 130, .null, 0), none, none, some (.lload 4, 127, 0, .null, 0), none, some (.goto 5, 130, 132, .null, 0)],
  [none, none, some (.lload 6, 132, 0, .null, 0), none, some (.lreturn, 133, 0, .null, 0)]])
def mX7_seasons : iMeth := (yX7_seasons, cX7_seasons, 6, (some .int), 3, 17, [615, 73, 613, 614], [
  [some (.iload_n 2, 1, 0, .null, 0), some (.bipush 17, 3, 0, .int 17, 0), none, some (.invokestatic 98, 6, 77, .null, 320), none, none, some (.ifCond .eq 11, 9, 17, .null, 0), none, none, some (.iload_n 3, 10, 0, .null, 0), some (.iconst 2, 11, 0, .int 2, 0), some (.invokestatic 98, 14, 77, .null, 320), none, none, some (.ifCond .ne 6, 17, 20, .null, 0), none],
  [none, some (.bipush (-2), 19, 0, .int (-2), 0), none, some (.ireturn, 20, 0, .null, 0), some (.iload_n 1, 21, 0, .null, 0), some (.istore 4, 23, 0, .null, 0), none, some (.iconst 0, 24, 0, .int 0, 0), some (.istore 5, 26, 0, .null, 0), none, some (.iload 5, 28, 0, .null, 0), none, some (.bipush 16, 30, 0, .int 16, 0), none, some (.if_icmp .ge 45, 33, 75, .null, 0), none],
  [none, some (.ldc 249, 35, 0, .int 1103515245, 616), none, some (.iload 4, 37, 0, .null, 0), none, some (.imul, 38, 0, .null, 0), some (.sipush 12345, 41, 0, .int 12345, 0), none, none, some (.iadd, 42, 0, .null, 0), some (.istore 4, 44, 0, .null, 0), none, some (.aload_n 0, 45, 0, .null, 0), some (.getfield 74, 48, 460, .null, 276), none, none],
  [some (.iload 5, 50, 0, .null, 0), none, some (.iload 5, 52, 0, .null, 0), none, some (.iload_n 2, 53, 0, .null, 0), some (.if_icmp .ge 14, 56, 67, .null, 0), none, none, some (.iload 4, 58, 0, .null, 0), none, some (.bipush 16, 60, 0, .int 16, 0), none, some (.iushr, 61, 0, .null, 0), some (.bipush 10, 63, 0, .int 10, 0), none, some (.irem, 64, 0, .null, 0)],
  [some (.goto 4, 67, 68, .null, 0), none, none, some (.iconst 0, 68, 0, .int 0, 0), some (.iastore, 69, 0, .null, 0), some (.iinc 5 1, 72, 0, .int 1, 0), none, none, some (.goto (-46), 75, 26, .null, 0), none, none, some (.aload_n 0, 76, 0, .null, 0), some (.getfield 68, 79, 458, .null, 274), none, none, some (.aload_n 0, 80, 0, .null, 0)],
  [some (.getfield 74, 83, 460, .null, 276), none, none, some (.aload_n 0, 84, 0, .null, 0), some (.getfield 29, 87, 451, .null, 267), none, none, some (.aload_n 0, 88, 0, .null, 0), some (.getfield 29, 91, 451, .null, 267), none, none, some (.invokevirtual 218, 94, 15, .null, 409), none, none, some (.invokevirtual 221, 97, 37, .null, 413), none],
  [none, some (.aload_n 0, 98, 0, .null, 0), some (.getfield 71, 101, 459, .null, 275), none, none, some (.aload_n 0, 102, 0, .null, 0), some (.getfield 22, 105, 450, .null, 266), none, none, some (.aload_n 0, 106, 0, .null, 0), some (.getfield 68, 109, 458, .null, 274), none, none, some (.aload_n 0, 110, 0, .null, 0), some (.getfield 29, 113, 451, .null, 267), none],
  [none, some (.aload_n 0, 114, 0, .null, 0), some (.getfield 29, 117, 451, .null, 267), none, none, some (.invokevirtual 218, 120, 15, .null, 409), none, none, some (.invokevirtual 225, 123, 1, .null, 424), none, none, some (.iload_n 3, 124, 0, .null, 0), some (.ifCond .ne 18, 127, 142, .null, 0), none, none, some (.aload_n 0, 128, 0, .null, 0)],
  [some (.getfield 71, 131, 459, .null, 275), none, none, some (.aload_n 0, 132, 0, .null, 0), some (.getfield 22, 135, 450, .null, 266), none, none, some (.invokevirtual 192, 138, 10, .null, 493), none, none, some (.invokestatic 208, 141, 199, .null, 517), none, none, some (.ireturn, 142, 0, .null, 0), some (.aload_n 0, 143, 0, .null, 0), some (.getfield 71, 146, 459, .null, 275)],
  [none, none, some (.aload_n 0, 147, 0, .null, 0), some (.getfield 22, 150, 450, .null, 266), none, none, some (.iconst 1, 151, 0, .int 1, 0), some (.invokevirtual 250, 154, 9, .null, 617), none, none, some (.ireturn, 155, 0, .null, 0)]])
def mX7_sheet : iMeth := (yX7_sheet, cX7_sheet, 4, (some .int), 3, 17, [625, 73, 623, 624], [
  [some (.iload_n 1, 1, 0, .null, 0), some (.iconst 4, 2, 0, .int 4, 0), some (.invokestatic 98, 5, 77, .null, 320), none, none, some (.ifCond .eq 17, 8, 22, .null, 0), none, none, some (.iload_n 2, 9, 0, .null, 0), some (.iconst 3, 10, 0, .int 3, 0), some (.invokestatic 98, 13, 77, .null, 320), none, none, some (.ifCond .eq 9, 16, 22, .null, 0), none, none],
  [some (.iload_n 3, 17, 0, .null, 0), some (.bipush 60, 19, 0, .int 60, 0), none, some (.if_icmp .le 6, 22, 25, .null, 0), none, none, some (.bipush (-2), 24, 0, .int (-2), 0), none, some (.ireturn, 25, 0, .null, 0), some (.iload_n 3, 26, 0, .null, 0), some (.ifCond .ge 9, 29, 35, .null, 0), none, none, some (.aload_n 0, 30, 0, .null, 0), some (.iconst 5, 31, 0, .int 5, 0), some (.invokevirtual 144, 34, 80, .null, 397)],
  [none, none, some (.ireturn, 35, 0, .null, 0), some (.aload_n 0, 36, 0, .null, 0), some (.getfield 42, 39, 453, .null, 269), none, none, some (.iload_n 1, 40, 0, .null, 0), some (.aaload, 41, 0, .null, 0), some (.iload_n 2, 42, 0, .null, 0), some (.iload_n 3, 43, 0, .null, 0), some (.invokevirtual 253, 46, 19, .null, 626), none, none, some (.iload_n 3, 47, 0, .null, 0), some (.ireturn, 48, 0, .null, 0)]])
def mX7_lose : iMeth := (yX7_lose, cX7_lose, 3, (some .int), 1, 17, [633, 73, 631, 632], [
  [some (.iload_n 1, 1, 0, .null, 0), some (.iconst 4, 2, 0, .int 4, 0), some (.invokestatic 98, 5, 77, .null, 320), none, none, some (.ifCond .ne 6, 8, 11, .null, 0), none, none, some (.bipush (-2), 10, 0, .int (-2), 0), none, some (.ireturn, 11, 0, .null, 0), some (.aload_n 0, 12, 0, .null, 0), some (.getfield 42, 15, 453, .null, 269), none, none, some (.iload_n 1, 16, 0, .null, 0)],
  [some (.aaload, 17, 0, .null, 0), some (.invokevirtual 140, 20, 18, .null, 393), none, none, some (.ifCond .eq 9, 23, 29, .null, 0), none, none, some (.aload_n 0, 24, 0, .null, 0), some (.iconst 1, 25, 0, .int 1, 0), some (.invokevirtual 144, 28, 80, .null, 397), none, none, some (.ireturn, 29, 0, .null, 0), some (.aload_n 0, 30, 0, .null, 0), some (.getfield 42, 33, 453, .null, 269), none],
  [none, some (.iload_n 1, 34, 0, .null, 0), some (.aaload, 35, 0, .null, 0), some (.getfield 148, 38, 130, .null, 248), none, none, some (.istore_n 2, 39, 0, .null, 0), some (.aload_n 0, 40, 0, .null, 0), some (.getfield 42, 43, 453, .null, 269), none, none, some (.iload_n 1, 44, 0, .null, 0), some (.aaload, 45, 0, .null, 0), some (.iconst (-1), 46, 0, .int (-1), 0), some (.putfield 148, 49, 130, .null, 248), none],
  [none, some (.iload_n 2, 50, 0, .null, 0), some (.ireturn, 51, 0, .null, 0)]])
def mX7_lay : iMeth := (yX7_lay, cX7_lay, 6, (some .int), 4, 17, [637, 73, 635, 636], [
  [some (.iload_n 1, 1, 0, .null, 0), some (.iconst 4, 2, 0, .int 4, 0), some (.invokestatic 98, 5, 77, .null, 320), none, none, some (.ifCond .eq 11, 8, 16, .null, 0), none, none, some (.iload_n 2, 9, 0, .null, 0), some (.iconst 3, 10, 0, .int 3, 0), some (.invokestatic 98, 13, 77, .null, 320), none, none, some (.ifCond .ne 6, 16, 19, .null, 0), none, none],
  [some (.bipush (-2), 18, 0, .int (-2), 0), none, some (.ireturn, 19, 0, .null, 0), some (.aload_n 0, 20, 0, .null, 0), some (.getfield 42, 23, 453, .null, 269), none, none, some (.iload_n 1, 24, 0, .null, 0), some (.aaload, 25, 0, .null, 0), some (.iload_n 2, 26, 0, .null, 0), some (.iload_n 3, 27, 0, .null, 0), some (.invokevirtual 257, 30, 20, .null, 638), none, none, some (.istore 5, 32, 0, .null, 0), none],
  [some (.iload 5, 34, 0, .null, 0), none, some (.ifCond .eq 10, 37, 44, .null, 0), none, none, some (.aload_n 0, 38, 0, .null, 0), some (.iload 5, 40, 0, .null, 0), none, some (.invokevirtual 144, 43, 80, .null, 397), none, none, some (.ireturn, 44, 0, .null, 0), some (.aload_n 0, 45, 0, .null, 0), some (.getfield 42, 48, 453, .null, 269), none, none],
  [some (.iload_n 1, 49, 0, .null, 0), some (.aaload, 50, 0, .null, 0), some (.iload_n 3, 51, 0, .null, 0), some (.iload 4, 53, 0, .null, 0), none, some (.invokevirtual 260, 56, 22, .null, 644), none, none, some (.iconst 1, 57, 0, .int 1, 0), some (.ireturn, 58, 0, .null, 0)]])
def mX7_get : iMeth := (yX7_get, cX7_get, 5, (some .int), 3, 17, [651, 73, 649, 650], [
  [some (.iload_n 1, 1, 0, .null, 0), some (.iconst 4, 2, 0, .int 4, 0), some (.invokestatic 98, 5, 77, .null, 320), none, none, some (.ifCond .eq 11, 8, 16, .null, 0), none, none, some (.iload_n 2, 9, 0, .null, 0), some (.iconst 3, 10, 0, .int 3, 0), some (.invokestatic 98, 13, 77, .null, 320), none, none, some (.ifCond .ne 7, 16, 20, .null, 0), none, none],
  [some (.ldc_w 263, 19, 0, .int (-2147483648), 652), none, none, some (.ireturn, 20, 0, .null, 0), some (.aload_n 0, 21, 0, .null, 0), some (.getfield 42, 24, 453, .null, 269), none, none, some (.iload_n 1, 25, 0, .null, 0), some (.aaload, 26, 0, .null, 0), some (.iload_n 2, 27, 0, .null, 0), some (.iload_n 3, 28, 0, .null, 0), some (.invokevirtual 257, 31, 20, .null, 638), none, none, some (.istore 4, 33, 0, .null, 0)],
  [none, some (.iload 4, 35, 0, .null, 0), none, some (.ifCond .eq 13, 38, 48, .null, 0), none, none, some (.aload_n 0, 39, 0, .null, 0), some (.iload 4, 41, 0, .null, 0), none, some (.putfield 46, 44, 454, .null, 270), none, none, some (.ldc_w 263, 47, 0, .int (-2147483648), 652), none, none, some (.ireturn, 48, 0, .null, 0)],
  [some (.aload_n 0, 49, 0, .null, 0), some (.getfield 42, 52, 453, .null, 269), none, none, some (.iload_n 1, 53, 0, .null, 0), some (.aaload, 54, 0, .null, 0), some (.getfield 149, 57, 128, .null, 244), none, none, some (.iload_n 3, 58, 0, .null, 0), some (.iaload, 59, 0, .null, 0), some (.ireturn, 60, 0, .null, 0)]])
def mX7_copy : iMeth := (yX7_copy, cX7_copy, 8, (some .int), 5, 17, [656, 73, 654, 655], [
  [some (.iload_n 1, 1, 0, .null, 0), some (.iconst 4, 2, 0, .int 4, 0), some (.invokestatic 98, 5, 77, .null, 320), none, none, some (.ifCond .eq 11, 8, 16, .null, 0), none, none, some (.iload_n 3, 9, 0, .null, 0), some (.iconst 4, 10, 0, .int 4, 0), some (.invokestatic 98, 13, 77, .null, 320), none, none, some (.ifCond .ne 6, 16, 19, .null, 0), none, none],
  [some (.bipush (-2), 18, 0, .int (-2), 0), none, some (.ireturn, 19, 0, .null, 0), some (.aload_n 0, 20, 0, .null, 0), some (.getfield 42, 23, 453, .null, 269), none, none, some (.iload_n 1, 24, 0, .null, 0), some (.aaload, 25, 0, .null, 0), some (.astore 6, 27, 0, .null, 0), none, some (.aload_n 0, 28, 0, .null, 0), some (.getfield 42, 31, 453, .null, 269), none, none, some (.iload_n 3, 32, 0, .null, 0)],
  [some (.aaload, 33, 0, .null, 0), some (.astore 7, 35, 0, .null, 0), none, some (.aload 6, 37, 0, .null, 0), none, some (.invokevirtual 140, 40, 18, .null, 393), none, none, some (.ifCond .ne 11, 43, 51, .null, 0), none, none, some (.aload 7, 45, 0, .null, 0), none, some (.invokevirtual 140, 48, 18, .null, 393), none, none],
  [some (.ifCond .eq 9, 51, 57, .null, 0), none, none, some (.aload_n 0, 52, 0, .null, 0), some (.iconst 1, 53, 0, .int 1, 0), some (.invokevirtual 144, 56, 80, .null, 397), none, none, some (.ireturn, 57, 0, .null, 0), some (.aload 6, 59, 0, .null, 0), none, some (.getfield 264, 62, 129, .null, 246), none, none, some (.aload 7, 64, 0, .null, 0), none],
  [some (.getfield 264, 67, 129, .null, 246), none, none, some (.if_icmp .eq 9, 70, 76, .null, 0), none, none, some (.aload_n 0, 71, 0, .null, 0), some (.iconst 4, 72, 0, .int 4, 0), some (.invokevirtual 144, 75, 80, .null, 397), none, none, some (.ireturn, 76, 0, .null, 0), some (.aload 6, 78, 0, .null, 0), none, some (.iload_n 2, 79, 0, .null, 0), some (.iload 5, 81, 0, .null, 0)],
  [none, some (.invokevirtual 267, 84, 21, .null, 657), none, none, some (.ifCond .eq 15, 87, 99, .null, 0), none, none, some (.aload 7, 89, 0, .null, 0), none, some (.iload 4, 91, 0, .null, 0), none, some (.iload 5, 93, 0, .null, 0), none, some (.invokevirtual 267, 96, 21, .null, 657), none, none],
  [some (.ifCond .ne 9, 99, 105, .null, 0), none, none, some (.aload_n 0, 100, 0, .null, 0), some (.iconst 2, 101, 0, .int 2, 0), some (.invokevirtual 144, 104, 80, .null, 397), none, none, some (.ireturn, 105, 0, .null, 0), some (.aload 6, 107, 0, .null, 0), none, some (.getfield 149, 110, 128, .null, 244), none, none, some (.iload_n 2, 111, 0, .null, 0), some (.aload 7, 113, 0, .null, 0)],
  [none, some (.getfield 149, 116, 128, .null, 244), none, none, some (.iload 4, 118, 0, .null, 0), none, some (.iload 5, 120, 0, .null, 0), none, some (.invokestatic 270, 123, 1001, .null, 661), none, none, some (.iconst 1, 124, 0, .int 1, 0), some (.ireturn, 125, 0, .null, 0)]])
def mX7_write : iMeth := (yX7_write, cX7_write, 5, (some .int), 2, 17, [667, 73, 665, 666], [
  [some (.iload_n 1, 1, 0, .null, 0), some (.bipush 24, 3, 0, .int 24, 0), none, some (.invokestatic 98, 6, 77, .null, 320), none, none, some (.ifCond .eq 11, 9, 17, .null, 0), none, none, some (.iload_n 2, 10, 0, .null, 0), some (.iconst 4, 11, 0, .int 4, 0), some (.invokestatic 98, 14, 77, .null, 320), none, none, some (.ifCond .ne 6, 17, 20, .null, 0), none],
  [none, some (.bipush (-2), 19, 0, .int (-2), 0), none, some (.ireturn, 20, 0, .null, 0), some (.aload_n 0, 21, 0, .null, 0), some (.getfield 42, 24, 453, .null, 269), none, none, some (.iload_n 2, 25, 0, .null, 0), some (.aaload, 26, 0, .null, 0), some (.invokevirtual 140, 29, 18, .null, 393), none, none, some (.ifCond .eq 9, 32, 38, .null, 0), none, none],
  [some (.aload_n 0, 33, 0, .null, 0), some (.iconst 1, 34, 0, .int 1, 0), some (.invokevirtual 144, 37, 80, .null, 397), none, none, some (.ireturn, 38, 0, .null, 0), some (.aload_n 0, 39, 0, .null, 0), some (.invokevirtual 152, 42, 83, .null, 405), none, none, some (.aload_n 0, 43, 0, .null, 0), some (.getfield 42, 46, 453, .null, 269), none, none, some (.iload_n 2, 47, 0, .null, 0), some (.aaload, 48, 0, .null, 0)],
  [some (.getfield 148, 51, 130, .null, 248), none, none, some (.bipush 16, 53, 0, .int 16, 0), none, some (.invokestatic 276, 56, 1003, .null, 531), none, none, some (.istore_n 3, 57, 0, .null, 0), some (.iconst 0, 58, 0, .int 0, 0), some (.istore 4, 60, 0, .null, 0), none, some (.iload 4, 62, 0, .null, 0), none, some (.iload_n 3, 63, 0, .null, 0), some (.if_icmp .ge 35, 66, 98, .null, 0)],
  [none, none, some (.aload_n 0, 67, 0, .null, 0), some (.getfield 42, 70, 453, .null, 269), none, none, some (.iload_n 2, 71, 0, .null, 0), some (.aaload, 72, 0, .null, 0), some (.iload 4, 74, 0, .null, 0), none, some (.aload_n 0, 75, 0, .null, 0), some (.getfield 57, 78, 456, .null, 272), none, none, some (.getfield 155, 81, 384, .null, 182), none],
  [none, some (.iload_n 1, 82, 0, .null, 0), some (.bipush 16, 84, 0, .int 16, 0), none, some (.imul, 85, 0, .null, 0), some (.iload 4, 87, 0, .null, 0), none, some (.iadd, 88, 0, .null, 0), some (.iaload, 89, 0, .null, 0), some (.invokevirtual 260, 92, 22, .null, 644), none, none, some (.iinc 4 1, 95, 0, .int 1, 0), none, none, some (.goto (-35), 98, 60, .null, 0)],
  [none, none, some (.iload_n 3, 99, 0, .null, 0), some (.ireturn, 100, 0, .null, 0)]])
def mX7_count : iMeth := (yX7_count, cX7_count, 2, (some .int), 1, 17, [671, 73, 669, 670], [
  [some (.aload_n 0, 1, 0, .null, 0), some (.invokevirtual 152, 4, 83, .null, 405), none, none, some (.iload_n 1, 5, 0, .null, 0), some (.tableswitch 161 0 8 #[51, 59, 89, 97, 112, 125, 138, 148, 156], 56, 0, .null, 0), none, none, none, none, none, none, none, none, none, none],
  [none, none, none, none, none, none, none, none, none, none, none, none, none, none, none, none],
  [none, none, none, none, none, none, none, none, none, none, none, none, none, none, none, none],
  [none, none, none, none, none, none, none, none, some (.aload_n 0, 57, 0, .null, 0), some (.getfield 22, 60, 450, .null, 266), none, none, some (.getfield 182, 63, 325, .null, 117), none, none, some (.ireturn, 64, 0, .null, 0)],
  [some (.aload_n 0, 65, 0, .null, 0), some (.getfield 11, 68, 448, .null, 264), none, none, some (.iconst 0, 69, 0, .int 0, 0), some (.aaload, 70, 0, .null, 0), some (.getfield 109, 73, 257, .null, 230), none, none, some (.aload_n 0, 74, 0, .null, 0), some (.getfield 11, 77, 448, .null, 264), none, none, some (.iconst 1, 78, 0, .int 1, 0), some (.aaload, 79, 0, .null, 0), some (.getfield 109, 82, 257, .null, 230)],
  [none, none, some (.iadd, 83, 0, .null, 0), some (.aload_n 0, 84, 0, .null, 0), some (.getfield 11, 87, 448, .null, 264), none, none, some (.iconst 2, 88, 0, .int 2, 0), some (.aaload, 89, 0, .null, 0), some (.getfield 109, 92, 257, .null, 230), none, none, some (.iadd, 93, 0, .null, 0), some (.ireturn, 94, 0, .null, 0), some (.aload_n 0, 95, 0, .null, 0), some (.getfield 29, 98, 451, .null, 267)],
  [none, none, some (.getfield 139, 101, 67, .null, 142), none, none, some (.ireturn, 102, 0, .null, 0), some (.aload_n 0, 103, 0, .null, 0), some (.getfield 64, 106, 457, .null, 273), none, none, some (.aload_n 0, 107, 0, .null, 0), some (.getfield 22, 110, 450, .null, 266), none, none, some (.invokevirtual 192, 113, 10, .null, 493), none],
  [none, some (.invokestatic 208, 116, 199, .null, 517), none, none, some (.ireturn, 117, 0, .null, 0), some (.aload_n 0, 118, 0, .null, 0), some (.getfield 64, 121, 457, .null, 273), none, none, some (.aload_n 0, 122, 0, .null, 0), some (.getfield 22, 125, 450, .null, 266), none, none, some (.iconst 1, 126, 0, .int 1, 0), some (.invokevirtual 250, 129, 9, .null, 617), none],
  [none, some (.ireturn, 130, 0, .null, 0), some (.aload_n 0, 131, 0, .null, 0), some (.getfield 64, 134, 457, .null, 273), none, none, some (.aload_n 0, 135, 0, .null, 0), some (.getfield 22, 138, 450, .null, 266), none, none, some (.iconst 2, 139, 0, .int 2, 0), some (.invokevirtual 250, 142, 9, .null, 617), none, none, some (.ireturn, 143, 0, .null, 0), some (.aload_n 0, 144, 0, .null, 0)],
  [some (.getfield 57, 147, 456, .null, 272), none, none, some (.bipush 23, 149, 0, .int 23, 0), none, some (.invokevirtual 168, 152, 38, .null, 459), none, none, some (.ireturn, 153, 0, .null, 0), some (.aload_n 0, 154, 0, .null, 0), some (.getfield 36, 157, 452, .null, 268), none, none, some (.getfield 217, 160, 195, .null, 162), none, none],
  [some (.ireturn, 161, 0, .null, 0), some (.aload_n 0, 162, 0, .null, 0), some (.getfield 46, 165, 454, .null, 270), none, none, some (.ireturn, 166, 0, .null, 0), some (.bipush (-2), 168, 0, .int (-2), 0), none, some (.ireturn, 169, 0, .null, 0)]])
def mX7_digest : iMeth := (yX7_digest, cX7_digest, 4, (some .long), 0, 17, [675, 73, 673, 674], [
  [some (.ldc2_w 281, 3, 0, .long 17, 676), none, none, some (.lstore_n 1, 4, 0, .null, 0), some (.iconst 0, 5, 0, .int 0, 0), some (.istore_n 3, 6, 0, .null, 0), some (.iload_n 3, 7, 0, .null, 0), some (.bipush 7, 9, 0, .int 7, 0), none, some (.if_icmp .gt 22, 12, 31, .null, 0), none, none, some (.ldc2_w 283, 15, 0, .long 31, 677), none, none, some (.lload_n 1, 16, 0, .null, 0)],
  [some (.lmul, 17, 0, .null, 0), some (.aload_n 0, 18, 0, .null, 0), some (.iload_n 3, 19, 0, .null, 0), some (.invokevirtual 285, 22, 75, .null, 678), none, none, some (.i2l, 23, 0, .null, 0), some (.ladd, 24, 0, .null, 0), some (.lstore_n 1, 25, 0, .null, 0), some (.iinc 3 1, 28, 0, .int 1, 0), none, none, some (.goto (-22), 31, 6, .null, 0), none, none, some (.iconst 0, 32, 0, .int 0, 0)],
  [some (.istore_n 3, 33, 0, .null, 0), some (.iload_n 3, 34, 0, .null, 0), some (.iconst 3, 35, 0, .int 3, 0), some (.if_icmp .ge 22, 38, 57, .null, 0), none, none, some (.ldc2_w 283, 41, 0, .long 31, 677), none, none, some (.lload_n 1, 42, 0, .null, 0), some (.lmul, 43, 0, .null, 0), some (.aload_n 0, 44, 0, .null, 0), some (.iload_n 3, 45, 0, .null, 0), some (.invokevirtual 288, 48, 44, .null, 679), none, none],
  [some (.i2l, 49, 0, .null, 0), some (.ladd, 50, 0, .null, 0), some (.lstore_n 1, 51, 0, .null, 0), some (.iinc 3 1, 54, 0, .int 1, 0), none, none, some (.goto (-21), 57, 33, .null, 0), none, none, some (.iconst 0, 58, 0, .int 0, 0), some (.istore_n 3, 59, 0, .null, 0), some (.iload_n 3, 60, 0, .null, 0), some (.bipush 24, 62, 0, .int 24, 0), none, some (.if_icmp .ge 37, 65, 99, .null, 0), none],
  [none, some (.ldc2_w 283, 68, 0, .long 31, 677), none, none, some (.lload_n 1, 69, 0, .null, 0), some (.lmul, 70, 0, .null, 0), some (.aload_n 0, 71, 0, .null, 0), some (.iload_n 3, 72, 0, .null, 0), some (.iconst 0, 73, 0, .int 0, 0), some (.invokevirtual 291, 76, 52, .null, 680), none, none, some (.i2l, 77, 0, .null, 0), some (.ladd, 78, 0, .null, 0), some (.lstore_n 1, 79, 0, .null, 0), some (.ldc2_w 283, 82, 0, .long 31, 677)],
  [none, none, some (.lload_n 1, 83, 0, .null, 0), some (.lmul, 84, 0, .null, 0), some (.aload_n 0, 85, 0, .null, 0), some (.iload_n 3, 86, 0, .null, 0), some (.iconst 1, 87, 0, .int 1, 0), some (.invokevirtual 291, 90, 52, .null, 680), none, none, some (.i2l, 91, 0, .null, 0), some (.ladd, 92, 0, .null, 0), some (.lstore_n 1, 93, 0, .null, 0), some (.iinc 3 1, 96, 0, .int 1, 0), none, none],
  [some (.goto (-37), 99, 59, .null, 0), none, none, some (.iconst 0, 100, 0, .int 0, 0), some (.istore_n 3, 101, 0, .null, 0), some (.iload_n 3, 102, 0, .null, 0), some (.bipush 16, 104, 0, .int 16, 0), none, some (.if_icmp .ge 16, 107, 120, .null, 0), none, none, some (.aload_n 0, 108, 0, .null, 0), some (.lload_n 1, 109, 0, .null, 0), some (.iload_n 3, 110, 0, .null, 0), some (.invokevirtual 294, 113, 94, .null, 681), none],
  [none, some (.lstore_n 1, 114, 0, .null, 0), some (.iinc 3 1, 117, 0, .int 1, 0), none, none, some (.goto (-16), 120, 101, .null, 0), none, none, some (.iconst 0, 121, 0, .int 0, 0), some (.istore_n 3, 122, 0, .null, 0), some (.iload_n 3, 123, 0, .null, 0), some (.aload_n 0, 124, 0, .null, 0), some (.getfield 22, 127, 450, .null, 266), none, none, some (.getfield 182, 130, 325, .null, 117)],
  [none, none, some (.if_icmp .ge 21, 133, 151, .null, 0), none, none, some (.aload_n 0, 134, 0, .null, 0), some (.aload_n 0, 135, 0, .null, 0), some (.lload_n 1, 136, 0, .null, 0), some (.iload_n 3, 137, 0, .null, 0), some (.invokevirtual 298, 140, 95, .null, 688), none, none, some (.iload_n 3, 141, 0, .null, 0), some (.invokevirtual 301, 144, 96, .null, 697), none, none],
  [some (.lstore_n 1, 145, 0, .null, 0), some (.iinc 3 1, 148, 0, .int 1, 0), none, none, some (.goto (-26), 151, 122, .null, 0), none, none, some (.aload_n 0, 152, 0, .null, 0), some (.lload_n 1, 153, 0, .null, 0), some (.invokevirtual 304, 156, 97, .null, 705), none, none, some (.lreturn, 157, 0, .null, 0)]])
def mX7_within : iMeth := (yX7_within, cX7_within, 2, (some .boolean), 2, 0, [322, 73, 321, 0], [
  [some (.iload_n 0, 1, 0, .null, 0), some (.ifCond .lt 12, 4, 13, .null, 0), none, none, some (.iload_n 0, 5, 0, .null, 0), some (.iload_n 1, 6, 0, .null, 0), some (.if_icmp .ge 7, 9, 13, .null, 0), none, none, some (.iconst 1, 10, 0, .int 1, 0), some (.goto 4, 13, 14, .null, 0), none, none, some (.iconst 0, 14, 0, .int 0, 0), some (.ireturn, 15, 0, .null, 0)]])
def mX7_bitAt : iMeth := (yX7_bitAt, cX7_bitAt, 4, (some .int), 2, 0, [554, 73, 553, 0], [
  [some (.iconst 0, 1, 0, .int 0, 0), some (.istore_n 2, 2, 0, .null, 0), some (.iconst 0, 3, 0, .int 0, 0), some (.istore_n 3, 4, 0, .null, 0), some (.iload_n 3, 5, 0, .null, 0), some (.bipush 31, 7, 0, .int 31, 0), none, some (.if_icmp .ge 28, 10, 35, .null, 0), none, none, some (.iload_n 0, 11, 0, .null, 0), some (.iload_n 3, 12, 0, .null, 0), some (.ishr, 13, 0, .null, 0), some (.iconst 1, 14, 0, .int 1, 0), some (.iand, 15, 0, .null, 0), some (.iconst 1, 16, 0, .int 1, 0)],
  [some (.if_icmp .ne 13, 19, 29, .null, 0), none, none, some (.iload_n 2, 20, 0, .null, 0), some (.iload_n 1, 21, 0, .null, 0), some (.if_icmp .ne 5, 24, 26, .null, 0), none, none, some (.iload_n 3, 25, 0, .null, 0), some (.ireturn, 26, 0, .null, 0), some (.iinc 2 1, 29, 0, .int 1, 0), none, none, some (.iinc 3 1, 32, 0, .int 1, 0), none, none],
  [some (.goto (-28), 35, 4, .null, 0), none, none, some (.iconst (-1), 36, 0, .int (-1), 0), some (.ireturn, 37, 0, .null, 0)]])
def mX7_isLog : iMeth := (yX7_isLog, cX7_isLog, 2, (some .boolean), 1, 17, [372, 73, 371, 3], [
  [some (.iload_n 1, 1, 0, .null, 0), some (.aload_n 0, 2, 0, .null, 0), some (.getfield 22, 5, 450, .null, 266), none, none, some (.getfield 182, 8, 325, .null, 117), none, none, some (.invokestatic 98, 11, 77, .null, 320), none, none, some (.ireturn, 12, 0, .null, 0)]])
def mX7_found : iMeth := (yX7_found, cX7_found, 2, (some .int), 1, 17, [400, 73, 399, 4], [
  [some (.aload_n 0, 1, 0, .null, 0), some (.iload_n 1, 2, 0, .null, 0), some (.putfield 46, 5, 454, .null, 270), none, none, some (.bipush (-10), 7, 0, .int (-10), 0), none, some (.iload_n 1, 8, 0, .null, 0), some (.isub, 9, 0, .null, 0), some (.ireturn, 10, 0, .null, 0)]])
def mX7_tellAgain : iMeth := (yX7_tellAgain, cX7_tellAgain, 2, none, 1, 17, [330, 73, 329, 1], [
  [some (.iload_n 1, 1, 0, .null, 0), some (.ifCond .ne 25, 4, 26, .null, 0), none, none, some (.aload_n 0, 5, 0, .null, 0), some (.getfield 15, 8, 449, .null, 265), none, none, some (.iload_n 1, 9, 0, .null, 0), some (.aload_n 0, 10, 0, .null, 0), some (.getfield 22, 13, 450, .null, 266), none, none, some (.aload_n 0, 14, 0, .null, 0), some (.getfield 11, 17, 448, .null, 264), none],
  [none, some (.iload_n 1, 18, 0, .null, 0), some (.aaload, 19, 0, .null, 0), some (.invokevirtual 94, 22, 29, .null, 256), none, none, some (.iastore, 23, 0, .null, 0), some (.goto 49, 26, 72, .null, 0), none, none, some (.iload_n 1, 27, 0, .null, 0), some (.iconst 1, 28, 0, .int 1, 0), some (.if_icmp .ne 25, 31, 53, .null, 0), none, none, some (.aload_n 0, 32, 0, .null, 0)],
  [some (.getfield 15, 35, 449, .null, 265), none, none, some (.iload_n 1, 36, 0, .null, 0), some (.aload_n 0, 37, 0, .null, 0), some (.getfield 22, 40, 450, .null, 266), none, none, some (.aload_n 0, 41, 0, .null, 0), some (.getfield 11, 44, 448, .null, 264), none, none, some (.iload_n 1, 45, 0, .null, 0), some (.aaload, 46, 0, .null, 0), some (.invokevirtual 308, 49, 30, .null, 331), none],
  [none, some (.iastore, 50, 0, .null, 0), some (.goto 22, 53, 72, .null, 0), none, none, some (.aload_n 0, 54, 0, .null, 0), some (.getfield 15, 57, 449, .null, 265), none, none, some (.iload_n 1, 58, 0, .null, 0), some (.aload_n 0, 59, 0, .null, 0), some (.getfield 22, 62, 450, .null, 266), none, none, some (.aload_n 0, 63, 0, .null, 0), some (.getfield 11, 66, 448, .null, 264)],
  [none, none, some (.iload_n 1, 67, 0, .null, 0), some (.aaload, 68, 0, .null, 0), some (.invokevirtual 311, 71, 32, .null, 335), none, none, some (.iastore, 72, 0, .null, 0), some (.aload_n 0, 73, 0, .null, 0), some (.invokevirtual 136, 76, 82, .null, 345), none, none, some (.return_, 77, 0, .null, 0)]])
def mX7_unsettle : iMeth := (yX7_unsettle, cX7_unsettle, 1, none, 0, 17, [348, 73, 347, 2], [
  [some (.aload_n 0, 1, 0, .null, 0), some (.iconst 0, 2, 0, .int 0, 0), some (.putfield 50, 5, 455, .null, 271), none, none, some (.return_, 6, 0, .null, 0)]])
def mX7_settle : iMeth := (yX7_settle, cX7_settle, 2, none, 0, 17, [408, 73, 407, 5], [
  [some (.aload_n 0, 1, 0, .null, 0), some (.getfield 50, 4, 455, .null, 271), none, none, some (.ifCond .eq 4, 7, 8, .null, 0), none, none, some (.return_, 8, 0, .null, 0), some (.aload_n 0, 9, 0, .null, 0), some (.getfield 57, 12, 456, .null, 272), none, none, some (.aload_n 0, 13, 0, .null, 0), some (.getfield 22, 16, 450, .null, 266), none, none],
  [some (.getfield 115, 19, 321, .null, 105), none, none, some (.aload_n 0, 20, 0, .null, 0), some (.getfield 29, 23, 451, .null, 267), none, none, some (.aload_n 0, 24, 0, .null, 0), some (.getfield 29, 27, 451, .null, 267), none, none, some (.invokevirtual 218, 30, 15, .null, 409), none, none, some (.invokevirtual 221, 33, 37, .null, 413), none],
  [none, some (.aload_n 0, 34, 0, .null, 0), some (.getfield 64, 37, 457, .null, 273), none, none, some (.aload_n 0, 38, 0, .null, 0), some (.getfield 22, 41, 450, .null, 266), none, none, some (.aload_n 0, 42, 0, .null, 0), some (.getfield 57, 45, 456, .null, 272), none, none, some (.aload_n 0, 46, 0, .null, 0), some (.getfield 29, 49, 451, .null, 267), none],
  [none, some (.aload_n 0, 50, 0, .null, 0), some (.getfield 29, 53, 451, .null, 267), none, none, some (.invokevirtual 218, 56, 15, .null, 409), none, none, some (.invokevirtual 225, 59, 1, .null, 424), none, none, some (.iconst 0, 60, 0, .int 0, 0), some (.istore_n 1, 61, 0, .null, 0), some (.iload_n 1, 62, 0, .null, 0), some (.aload_n 0, 63, 0, .null, 0), some (.getfield 77, 66, 461, .null, 277)],
  [none, none, some (.arraylength, 67, 0, .null, 0), some (.if_icmp .ge 16, 70, 83, .null, 0), none, none, some (.aload_n 0, 71, 0, .null, 0), some (.getfield 77, 74, 461, .null, 277), none, none, some (.iload_n 1, 75, 0, .null, 0), some (.iconst (-1), 76, 0, .int (-1), 0), some (.iastore, 77, 0, .null, 0), some (.iinc 1 1, 80, 0, .int 1, 0), none, none],
  [some (.goto (-19), 83, 61, .null, 0), none, none, some (.aload_n 0, 84, 0, .null, 0), some (.iconst 1, 85, 0, .int 1, 0), some (.putfield 50, 88, 455, .null, 271), none, none, some (.return_, 89, 0, .null, 0)]])
def mX7_startSearch : iMeth := (yX7_startSearch, cX7_startSearch, 1, none, 0, 17, [512, 73, 511, 10], [
  [some (.aload_n 0, 1, 0, .null, 0), some (.invokevirtual 152, 4, 83, .null, 405), none, none, some (.aload_n 0, 5, 0, .null, 0), some (.iconst (-1), 6, 0, .int (-1), 0), some (.putfield 84, 9, 463, .null, 279), none, none, some (.aload_n 0, 10, 0, .null, 0), some (.iconst (-1), 11, 0, .int (-1), 0), some (.putfield 87, 14, 464, .null, 280), none, none, some (.return_, 15, 0, .null, 0)]])
def mX7_weigh : iMeth := (yX7_weigh, cX7_weigh, 3, none, 1, 17, [516, 73, 515, 11], [
  [some (.aload_n 0, 1, 0, .null, 0), some (.getfield 71, 4, 459, .null, 275), none, none, some (.aload_n 0, 5, 0, .null, 0), some (.getfield 22, 8, 450, .null, 266), none, none, some (.invokevirtual 192, 11, 10, .null, 493), none, none, some (.invokestatic 208, 14, 199, .null, 517), none, none, some (.istore_n 2, 15, 0, .null, 0), some (.iload_n 2, 16, 0, .null, 0)],
  [some (.aload_n 0, 17, 0, .null, 0), some (.getfield 87, 20, 464, .null, 280), none, none, some (.if_icmp .le 13, 23, 33, .null, 0), none, none, some (.aload_n 0, 24, 0, .null, 0), some (.iload_n 2, 25, 0, .null, 0), some (.putfield 87, 28, 464, .null, 280), none, none, some (.aload_n 0, 29, 0, .null, 0), some (.iload_n 1, 30, 0, .null, 0), some (.putfield 84, 33, 463, .null, 279), none],
  [none, some (.return_, 34, 0, .null, 0)]])
def mX7_searchSend : iMeth := (yX7_searchSend, cX7_searchSend, 4, none, 1, 17, [508, 73, 507, 9], [
  [some (.aload_n 0, 1, 0, .null, 0), some (.invokevirtual 314, 4, 84, .null, 509), none, none, some (.aload_n 0, 5, 0, .null, 0), some (.getfield 22, 8, 450, .null, 266), none, none, some (.getfield 121, 11, 322, .null, 108), none, none, some (.iload_n 1, 12, 0, .null, 0), some (.iaload, 13, 0, .null, 0), some (.istore_n 2, 14, 0, .null, 0), some (.iconst 0, 15, 0, .int 0, 0), some (.istore_n 3, 16, 0, .null, 0)],
  [some (.iload_n 3, 17, 0, .null, 0), some (.bipush 24, 19, 0, .int 24, 0), none, some (.if_icmp .ge 50, 22, 69, .null, 0), none, none, some (.aload_n 0, 23, 0, .null, 0), some (.getfield 22, 26, 450, .null, 266), none, none, some (.getfield 121, 29, 322, .null, 108), none, none, some (.iload_n 1, 30, 0, .null, 0), some (.iload_n 3, 31, 0, .null, 0), some (.iastore, 32, 0, .null, 0)],
  [some (.aload_n 0, 33, 0, .null, 0), some (.getfield 71, 36, 459, .null, 275), none, none, some (.aload_n 0, 37, 0, .null, 0), some (.getfield 22, 40, 450, .null, 266), none, none, some (.aload_n 0, 41, 0, .null, 0), some (.getfield 57, 44, 456, .null, 272), none, none, some (.aload_n 0, 45, 0, .null, 0), some (.getfield 29, 48, 451, .null, 267), none, none],
  [some (.aload_n 0, 49, 0, .null, 0), some (.getfield 29, 52, 451, .null, 267), none, none, some (.invokevirtual 218, 55, 15, .null, 409), none, none, some (.invokevirtual 225, 58, 1, .null, 424), none, none, some (.aload_n 0, 59, 0, .null, 0), some (.iload_n 3, 60, 0, .null, 0), some (.invokevirtual 317, 63, 85, .null, 513), none, none, some (.iinc 3 1, 66, 0, .int 1, 0)],
  [none, none, some (.goto (-50), 69, 16, .null, 0), none, none, some (.aload_n 0, 70, 0, .null, 0), some (.getfield 22, 73, 450, .null, 266), none, none, some (.getfield 121, 76, 322, .null, 108), none, none, some (.iload_n 1, 77, 0, .null, 0), some (.iload_n 2, 78, 0, .null, 0), some (.iastore, 79, 0, .null, 0), some (.return_, 80, 0, .null, 0)]])
def mX7_searchSteep : iMeth := (yX7_searchSteep, cX7_searchSteep, 3, none, 0, 17, [530, 73, 529, 12], [
  [some (.aload_n 0, 1, 0, .null, 0), some (.invokevirtual 314, 4, 84, .null, 509), none, none, some (.iconst 0, 5, 0, .int 0, 0), some (.istore_n 1, 6, 0, .null, 0), some (.iload_n 1, 7, 0, .null, 0), some (.bipush 16, 9, 0, .int 16, 0), none, some (.if_icmp .ge 76, 12, 85, .null, 0), none, none, some (.aload_n 0, 13, 0, .null, 0), some (.getfield 22, 16, 450, .null, 266), none, none],
  [some (.getfield 112, 19, 320, .null, 103), none, none, some (.iload_n 1, 20, 0, .null, 0), some (.iaload, 21, 0, .null, 0), some (.istore_n 2, 22, 0, .null, 0), some (.aload_n 0, 23, 0, .null, 0), some (.getfield 22, 26, 450, .null, 266), none, none, some (.getfield 112, 29, 320, .null, 103), none, none, some (.iload_n 1, 30, 0, .null, 0), some (.iload_n 2, 31, 0, .null, 0), some (.iconst 1, 32, 0, .int 1, 0)],
  [some (.iadd, 33, 0, .null, 0), some (.iconst 3, 34, 0, .int 3, 0), some (.invokestatic 276, 37, 1003, .null, 531), none, none, some (.iastore, 38, 0, .null, 0), some (.aload_n 0, 39, 0, .null, 0), some (.getfield 71, 42, 459, .null, 275), none, none, some (.aload_n 0, 43, 0, .null, 0), some (.getfield 22, 46, 450, .null, 266), none, none, some (.aload_n 0, 47, 0, .null, 0), some (.getfield 57, 50, 456, .null, 272)],
  [none, none, some (.aload_n 0, 51, 0, .null, 0), some (.getfield 29, 54, 451, .null, 267), none, none, some (.aload_n 0, 55, 0, .null, 0), some (.getfield 29, 58, 451, .null, 267), none, none, some (.invokevirtual 218, 61, 15, .null, 409), none, none, some (.invokevirtual 225, 64, 1, .null, 424), none, none],
  [some (.aload_n 0, 65, 0, .null, 0), some (.getfield 22, 68, 450, .null, 266), none, none, some (.getfield 112, 71, 320, .null, 103), none, none, some (.iload_n 1, 72, 0, .null, 0), some (.iload_n 2, 73, 0, .null, 0), some (.iastore, 74, 0, .null, 0), some (.aload_n 0, 75, 0, .null, 0), some (.iload_n 1, 76, 0, .null, 0), some (.invokevirtual 317, 79, 85, .null, 513), none, none, some (.iinc 1 1, 82, 0, .int 1, 0)],
  [none, none, some (.goto (-76), 85, 6, .null, 0), none, none, some (.return_, 86, 0, .null, 0)]])
def mX7_searchFill : iMeth := (yX7_searchFill, cX7_searchFill, 3, none, 0, 17, [539, 73, 538, 13], [
  [some (.aload_n 0, 1, 0, .null, 0), some (.invokevirtual 314, 4, 84, .null, 509), none, none, some (.iconst 0, 5, 0, .int 0, 0), some (.istore_n 1, 6, 0, .null, 0), some (.iload_n 1, 7, 0, .null, 0), some (.bipush 16, 9, 0, .int 16, 0), none, some (.if_icmp .ge 102, 12, 111, .null, 0), none, none, some (.aload_n 0, 13, 0, .null, 0), some (.getfield 22, 16, 450, .null, 266), none, none],
  [some (.getfield 115, 19, 321, .null, 105), none, none, some (.iload_n 1, 20, 0, .null, 0), some (.iaload, 21, 0, .null, 0), some (.istore_n 2, 22, 0, .null, 0), some (.aload_n 0, 23, 0, .null, 0), some (.getfield 22, 26, 450, .null, 266), none, none, some (.getfield 115, 29, 321, .null, 105), none, none, some (.iload_n 1, 30, 0, .null, 0), some (.iload_n 2, 31, 0, .null, 0), some (.iconst 2, 32, 0, .int 2, 0)],
  [some (.iadd, 33, 0, .null, 0), some (.bipush 9, 35, 0, .int 9, 0), none, some (.invokestatic 276, 38, 1003, .null, 531), none, none, some (.iastore, 39, 0, .null, 0), some (.aload_n 0, 40, 0, .null, 0), some (.getfield 68, 43, 458, .null, 274), none, none, some (.aload_n 0, 44, 0, .null, 0), some (.getfield 22, 47, 450, .null, 266), none, none, some (.getfield 115, 50, 321, .null, 105)],
  [none, none, some (.aload_n 0, 51, 0, .null, 0), some (.getfield 29, 54, 451, .null, 267), none, none, some (.aload_n 0, 55, 0, .null, 0), some (.getfield 29, 58, 451, .null, 267), none, none, some (.invokevirtual 218, 61, 15, .null, 409), none, none, some (.invokevirtual 221, 64, 37, .null, 413), none, none],
  [some (.aload_n 0, 65, 0, .null, 0), some (.getfield 22, 68, 450, .null, 266), none, none, some (.getfield 115, 71, 321, .null, 105), none, none, some (.iload_n 1, 72, 0, .null, 0), some (.iload_n 2, 73, 0, .null, 0), some (.iastore, 74, 0, .null, 0), some (.aload_n 0, 75, 0, .null, 0), some (.getfield 71, 78, 459, .null, 275), none, none, some (.aload_n 0, 79, 0, .null, 0), some (.getfield 22, 82, 450, .null, 266)],
  [none, none, some (.aload_n 0, 83, 0, .null, 0), some (.getfield 68, 86, 458, .null, 274), none, none, some (.aload_n 0, 87, 0, .null, 0), some (.getfield 29, 90, 451, .null, 267), none, none, some (.aload_n 0, 91, 0, .null, 0), some (.getfield 29, 94, 451, .null, 267), none, none, some (.invokevirtual 218, 97, 15, .null, 409), none],
  [none, some (.invokevirtual 225, 100, 1, .null, 424), none, none, some (.aload_n 0, 101, 0, .null, 0), some (.iload_n 1, 102, 0, .null, 0), some (.invokevirtual 317, 105, 85, .null, 513), none, none, some (.iinc 1 1, 108, 0, .int 1, 0), none, none, some (.goto (-102), 111, 6, .null, 0), none, none, some (.return_, 112, 0, .null, 0)]])
def mX7_sparedEvents : iMeth := (yX7_sparedEvents, cX7_sparedEvents, 6, (some .int), 0, 17, [547, 73, 546, 14], [
  [some (.aload_n 0, 1, 0, .null, 0), some (.invokevirtual 152, 4, 83, .null, 405), none, none, some (.aload_n 0, 5, 0, .null, 0), some (.getfield 29, 8, 451, .null, 267), none, none, some (.invokevirtual 218, 11, 15, .null, 409), none, none, some (.istore_n 1, 12, 0, .null, 0), some (.aload_n 0, 13, 0, .null, 0), some (.getfield 22, 16, 450, .null, 266), none, none],
  [some (.invokevirtual 189, 19, 35, .null, 492), none, none, some (.istore_n 2, 20, 0, .null, 0), some (.aload_n 0, 21, 0, .null, 0), some (.iload_n 1, 22, 0, .null, 0), some (.invokevirtual 320, 25, 90, .null, 548), none, none, some (.iload_n 2, 26, 0, .null, 0), some (.if_icmp .ne 5, 29, 31, .null, 0), none, none, some (.iconst 0, 30, 0, .int 0, 0), some (.ireturn, 31, 0, .null, 0), some (.iconst 0, 32, 0, .int 0, 0)],
  [some (.istore_n 3, 33, 0, .null, 0), some (.iload_n 3, 34, 0, .null, 0), some (.aload_n 0, 35, 0, .null, 0), some (.getfield 29, 38, 451, .null, 267), none, none, some (.getfield 139, 41, 67, .null, 142), none, none, some (.if_icmp .ge 28, 44, 69, .null, 0), none, none, some (.aload_n 0, 45, 0, .null, 0), some (.iload_n 1, 46, 0, .null, 0), some (.iconst 1, 47, 0, .int 1, 0), some (.iload_n 3, 48, 0, .null, 0)],
  [some (.ishl, 49, 0, .null, 0), some (.iconst (-1), 50, 0, .int (-1), 0), some (.ixor, 51, 0, .null, 0), some (.iand, 52, 0, .null, 0), some (.invokevirtual 320, 55, 90, .null, 548), none, none, some (.iload_n 2, 56, 0, .null, 0), some (.if_icmp .ne 7, 59, 63, .null, 0), none, none, some (.iconst 1, 60, 0, .int 1, 0), some (.iload_n 3, 61, 0, .null, 0), some (.ishl, 62, 0, .null, 0), some (.ireturn, 63, 0, .null, 0), some (.iinc 3 1, 66, 0, .int 1, 0)],
  [none, none, some (.goto (-33), 69, 33, .null, 0), none, none, some (.iconst 0, 70, 0, .int 0, 0), some (.istore_n 3, 71, 0, .null, 0), some (.iload_n 3, 72, 0, .null, 0), some (.aload_n 0, 73, 0, .null, 0), some (.getfield 29, 76, 451, .null, 267), none, none, some (.getfield 139, 79, 67, .null, 142), none, none, some (.if_icmp .ge 59, 82, 138, .null, 0)],
  [none, none, some (.iload_n 3, 83, 0, .null, 0), some (.iconst 1, 84, 0, .int 1, 0), some (.iadd, 85, 0, .null, 0), some (.istore 4, 87, 0, .null, 0), none, some (.iload 4, 89, 0, .null, 0), none, some (.aload_n 0, 90, 0, .null, 0), some (.getfield 29, 93, 451, .null, 267), none, none, some (.getfield 139, 96, 67, .null, 142), none, none],
  [some (.if_icmp .ge 36, 99, 132, .null, 0), none, none, some (.iconst 1, 100, 0, .int 1, 0), some (.iload_n 3, 101, 0, .null, 0), some (.ishl, 102, 0, .null, 0), some (.iconst 1, 103, 0, .int 1, 0), some (.iload 4, 105, 0, .null, 0), none, some (.ishl, 106, 0, .null, 0), some (.ior, 107, 0, .null, 0), some (.istore 5, 109, 0, .null, 0), none, some (.aload_n 0, 110, 0, .null, 0), some (.iload_n 1, 111, 0, .null, 0), some (.iload 5, 113, 0, .null, 0)],
  [none, some (.iconst (-1), 114, 0, .int (-1), 0), some (.ixor, 115, 0, .null, 0), some (.iand, 116, 0, .null, 0), some (.invokevirtual 320, 119, 90, .null, 548), none, none, some (.iload_n 2, 120, 0, .null, 0), some (.if_icmp .ne 6, 123, 126, .null, 0), none, none, some (.iload 5, 125, 0, .null, 0), none, some (.ireturn, 126, 0, .null, 0), some (.iinc 4 1, 129, 0, .int 1, 0), none],
  [none, some (.goto (-42), 132, 87, .null, 0), none, none, some (.iinc 3 1, 135, 0, .int 1, 0), none, none, some (.goto (-64), 138, 71, .null, 0), none, none, some (.iconst (-1), 139, 0, .int (-1), 0), some (.ireturn, 140, 0, .null, 0)]])
def mX7_outcome : iMeth := (yX7_outcome, cX7_outcome, 2, (some .int), 1, 17, [551, 73, 550, 15], [
  [some (.iload_n 1, 1, 0, .null, 0), some (.aload_n 0, 2, 0, .null, 0), some (.getfield 77, 5, 461, .null, 277), none, none, some (.arraylength, 6, 0, .null, 0), some (.invokestatic 98, 9, 77, .null, 320), none, none, some (.ifCond .ne 5, 12, 14, .null, 0), none, none, some (.iconst (-1), 13, 0, .int (-1), 0), some (.ireturn, 14, 0, .null, 0), some (.aload_n 0, 15, 0, .null, 0), some (.getfield 77, 18, 461, .null, 277)],
  [none, none, some (.iload_n 1, 19, 0, .null, 0), some (.iaload, 20, 0, .null, 0), some (.iconst (-1), 21, 0, .int (-1), 0), some (.if_icmp .ne 59, 24, 80, .null, 0), none, none, some (.aload_n 0, 25, 0, .null, 0), some (.getfield 68, 28, 458, .null, 274), none, none, some (.aload_n 0, 29, 0, .null, 0), some (.getfield 22, 32, 450, .null, 266), none, none],
  [some (.getfield 115, 35, 321, .null, 105), none, none, some (.aload_n 0, 36, 0, .null, 0), some (.getfield 29, 39, 451, .null, 267), none, none, some (.iload_n 1, 40, 0, .null, 0), some (.invokevirtual 221, 43, 37, .null, 413), none, none, some (.aload_n 0, 44, 0, .null, 0), some (.getfield 71, 47, 459, .null, 275), none, none, some (.aload_n 0, 48, 0, .null, 0)],
  [some (.getfield 22, 51, 450, .null, 266), none, none, some (.aload_n 0, 52, 0, .null, 0), some (.getfield 68, 55, 458, .null, 274), none, none, some (.aload_n 0, 56, 0, .null, 0), some (.getfield 29, 59, 451, .null, 267), none, none, some (.iload_n 1, 60, 0, .null, 0), some (.invokevirtual 225, 63, 1, .null, 424), none, none, some (.aload_n 0, 64, 0, .null, 0)],
  [some (.getfield 77, 67, 461, .null, 277), none, none, some (.iload_n 1, 68, 0, .null, 0), some (.aload_n 0, 69, 0, .null, 0), some (.getfield 71, 72, 459, .null, 275), none, none, some (.aload_n 0, 73, 0, .null, 0), some (.getfield 22, 76, 450, .null, 266), none, none, some (.invokevirtual 192, 79, 10, .null, 493), none, none, some (.iastore, 80, 0, .null, 0)],
  [some (.aload_n 0, 81, 0, .null, 0), some (.getfield 77, 84, 461, .null, 277), none, none, some (.iload_n 1, 85, 0, .null, 0), some (.iaload, 86, 0, .null, 0), some (.ireturn, 87, 0, .null, 0)]])
def mX7_sixteenthsOut : iMeth := (yX7_sixteenthsOut, cX7_sixteenthsOut, 10, (some .long), 2, 17, [610, 73, 609, 18], [
  [some (.aload_n 0, 1, 0, .null, 0), some (.invokevirtual 152, 4, 83, .null, 405), none, none, some (.lconst 0, 5, 0, .long 0, 0), some (.lstore_n 3, 6, 0, .null, 0), some (.aload_n 0, 7, 0, .null, 0), some (.getfield 29, 10, 451, .null, 267), none, none, some (.invokevirtual 218, 13, 15, .null, 409), none, none, some (.istore 5, 15, 0, .null, 0), none, some (.iconst 0, 16, 0, .int 0, 0)],
  [some (.istore 6, 18, 0, .null, 0), none, some (.iload 6, 20, 0, .null, 0), none, some (.iload 5, 22, 0, .null, 0), none, some (.if_icmp .gt 85, 25, 107, .null, 0), none, none, some (.lconst 1, 26, 0, .long 1, 0), some (.lstore 7, 28, 0, .null, 0), none, some (.iconst 0, 29, 0, .int 0, 0), some (.istore 9, 31, 0, .null, 0), none, some (.iload 9, 33, 0, .null, 0)],
  [none, some (.aload_n 0, 34, 0, .null, 0), some (.getfield 29, 37, 451, .null, 267), none, none, some (.getfield 139, 40, 67, .null, 142), none, none, some (.if_icmp .ge 35, 43, 75, .null, 0), none, none, some (.lload 7, 45, 0, .null, 0), none, some (.iload 6, 47, 0, .null, 0), none, some (.iload 9, 49, 0, .null, 0)],
  [none, some (.ishr, 50, 0, .null, 0), some (.iconst 1, 51, 0, .int 1, 0), some (.iand, 52, 0, .null, 0), some (.iconst 1, 53, 0, .int 1, 0), some (.if_icmp .ne 8, 56, 61, .null, 0), none, none, some (.iload_n 1, 57, 0, .null, 0), some (.i2l, 58, 0, .null, 0), some (.goto 8, 61, 66, .null, 0), none, none, some (.bipush 16, 63, 0, .int 16, 0), none, some (.iload_n 1, 64, 0, .null, 0)],
  [some (.isub, 65, 0, .null, 0), some (.i2l, 66, 0, .null, 0), some (.lmul, 67, 0, .null, 0), some (.lstore 7, 69, 0, .null, 0), none, some (.iinc 9 1, 72, 0, .int 1, 0), none, none, some (.goto (-41), 75, 31, .null, 0), none, none, some (.lload 7, 77, 0, .null, 0), none, some (.lconst 0, 78, 0, .long 0, 0), some (.lcmp, 79, 0, .null, 0), some (.ifCond .eq 22, 82, 101, .null, 0)],
  [none, none, some (.aload_n 0, 83, 0, .null, 0), some (.iload 6, 85, 0, .null, 0), none, some (.invokevirtual 320, 88, 90, .null, 548), none, none, some (.iload_n 2, 89, 0, .null, 0), some (.ishr, 90, 0, .null, 0), some (.iconst 1, 91, 0, .int 1, 0), some (.iand, 92, 0, .null, 0), some (.iconst 1, 93, 0, .int 1, 0), some (.if_icmp .ne 8, 96, 101, .null, 0), none, none],
  [some (.lload_n 3, 97, 0, .null, 0), some (.lload 7, 99, 0, .null, 0), none, some (.ladd, 100, 0, .null, 0), some (.lstore_n 3, 101, 0, .null, 0), some (.iinc 6 1, 104, 0, .int 1, 0), none, none, some (.goto (-86), 107, 18, .null, 0), none, none, some (.lload_n 3, 108, 0, .null, 0), some (.lreturn, 109, 0, .null, 0)]])
def mX7_traceDraughts : iMeth := (yX7_traceDraughts, cX7_traceDraughts, 5, (some .int), 1, 17, [584, 73, 583, 16], [
  [some (.aload_n 0, 1, 0, .null, 0), some (.invokevirtual 152, 4, 83, .null, 405), none, none, some (.aload_n 0, 5, 0, .null, 0), some (.getfield 22, 8, 450, .null, 266), none, none, some (.getfield 124, 11, 323, .null, 111), none, none, some (.iload_n 1, 12, 0, .null, 0), some (.iaload, 13, 0, .null, 0), some (.istore_n 2, 14, 0, .null, 0), some (.iconst 0, 15, 0, .int 0, 0), some (.istore_n 3, 16, 0, .null, 0)],
  [some (.iconst 1, 17, 0, .int 1, 0), some (.istore 4, 19, 0, .null, 0), none, some (.iload 4, 21, 0, .null, 0), none, some (.bipush 9, 23, 0, .int 9, 0), none, some (.if_icmp .gt 91, 26, 114, .null, 0), none, none, some (.aload_n 0, 27, 0, .null, 0), some (.getfield 22, 30, 450, .null, 266), none, none, some (.getfield 124, 33, 323, .null, 111), none],
  [none, some (.iload_n 1, 34, 0, .null, 0), some (.iload 4, 36, 0, .null, 0), none, some (.iastore, 37, 0, .null, 0), some (.aload_n 0, 38, 0, .null, 0), some (.getfield 71, 41, 459, .null, 275), none, none, some (.aload_n 0, 42, 0, .null, 0), some (.getfield 22, 45, 450, .null, 266), none, none, some (.aload_n 0, 46, 0, .null, 0), some (.getfield 57, 49, 456, .null, 272), none],
  [none, some (.aload_n 0, 50, 0, .null, 0), some (.getfield 29, 53, 451, .null, 267), none, none, some (.aload_n 0, 54, 0, .null, 0), some (.getfield 29, 57, 451, .null, 267), none, none, some (.invokevirtual 218, 60, 15, .null, 409), none, none, some (.invokevirtual 225, 63, 1, .null, 424), none, none, some (.aload_n 0, 64, 0, .null, 0)],
  [some (.getfield 36, 67, 452, .null, 268), none, none, some (.aload_n 0, 68, 0, .null, 0), some (.getfield 22, 71, 450, .null, 266), none, none, some (.aload_n 0, 72, 0, .null, 0), some (.getfield 71, 75, 459, .null, 275), none, none, some (.invokevirtual 229, 78, 25, .null, 572), none, none, some (.ifCond .eq 30, 81, 108, .null, 0), none],
  [none, some (.iload_n 3, 82, 0, .null, 0), some (.iconst 1, 83, 0, .int 1, 0), some (.iload 4, 85, 0, .null, 0), none, some (.ishl, 86, 0, .null, 0), some (.ior, 87, 0, .null, 0), some (.istore_n 3, 88, 0, .null, 0), some (.aload_n 0, 89, 0, .null, 0), some (.getfield 71, 92, 459, .null, 275), none, none, some (.aload_n 0, 93, 0, .null, 0), some (.getfield 22, 96, 450, .null, 266), none, none],
  [some (.aload_n 0, 97, 0, .null, 0), some (.getfield 80, 100, 462, .null, 278), none, none, some (.iload 4, 102, 0, .null, 0), none, some (.bipush 24, 104, 0, .int 24, 0), none, some (.imul, 105, 0, .null, 0), some (.invokevirtual 323, 108, 11, .null, 585), none, none, some (.iinc 4 1, 111, 0, .int 1, 0), none, none, some (.goto (-92), 114, 19, .null, 0)],
  [none, none, some (.aload_n 0, 115, 0, .null, 0), some (.getfield 22, 118, 450, .null, 266), none, none, some (.getfield 124, 121, 323, .null, 111), none, none, some (.iload_n 1, 122, 0, .null, 0), some (.iload_n 2, 123, 0, .null, 0), some (.iastore, 124, 0, .null, 0), some (.iload_n 3, 125, 0, .null, 0), some (.ireturn, 126, 0, .null, 0)]])
def mX7_mostAlike : iMeth := (yX7_mostAlike, cX7_mostAlike, 8, (some .int), 2, 17, [600, 73, 599, 17], [
  [some (.iconst 0, 1, 0, .int 0, 0), some (.istore_n 3, 2, 0, .null, 0), some (.iconst 1, 3, 0, .int 1, 0), some (.istore 4, 5, 0, .null, 0), none, some (.iload 4, 7, 0, .null, 0), none, some (.bipush 9, 9, 0, .int 9, 0), none, some (.if_icmp .gt 98, 12, 107, .null, 0), none, none, some (.iconst 0, 13, 0, .int 0, 0), some (.istore 5, 15, 0, .null, 0), none, some (.iconst 1, 16, 0, .int 1, 0)],
  [some (.istore 6, 18, 0, .null, 0), none, some (.iload 6, 20, 0, .null, 0), none, some (.bipush 9, 22, 0, .int 9, 0), none, some (.if_icmp .gt 72, 25, 94, .null, 0), none, none, some (.iload_n 1, 26, 0, .null, 0), some (.iload 4, 28, 0, .null, 0), none, some (.ishr, 29, 0, .null, 0), some (.iconst 1, 30, 0, .int 1, 0), some (.iand, 31, 0, .null, 0), some (.iconst 1, 32, 0, .int 1, 0)],
  [some (.if_icmp .ne 17, 35, 49, .null, 0), none, none, some (.iload_n 1, 36, 0, .null, 0), some (.iload 6, 38, 0, .null, 0), none, some (.ishr, 39, 0, .null, 0), some (.iconst 1, 40, 0, .int 1, 0), some (.iand, 41, 0, .null, 0), some (.iconst 1, 42, 0, .int 1, 0), some (.if_icmp .ne 7, 45, 49, .null, 0), none, none, some (.iconst 1, 46, 0, .int 1, 0), some (.goto 4, 49, 50, .null, 0), none],
  [none, some (.iconst 0, 50, 0, .int 0, 0), some (.istore 7, 52, 0, .null, 0), none, some (.iload 7, 54, 0, .null, 0), none, some (.ifCond .eq 34, 57, 88, .null, 0), none, none, some (.aload_n 0, 58, 0, .null, 0), some (.getfield 80, 61, 462, .null, 278), none, none, some (.iload 4, 63, 0, .null, 0), none, some (.bipush 24, 65, 0, .int 24, 0)],
  [none, some (.imul, 66, 0, .null, 0), some (.iload_n 2, 67, 0, .null, 0), some (.iadd, 68, 0, .null, 0), some (.laload, 69, 0, .null, 0), some (.aload_n 0, 70, 0, .null, 0), some (.getfield 80, 73, 462, .null, 278), none, none, some (.iload 6, 75, 0, .null, 0), none, some (.bipush 24, 77, 0, .int 24, 0), none, some (.imul, 78, 0, .null, 0), some (.iload_n 2, 79, 0, .null, 0), some (.iadd, 80, 0, .null, 0)],
  [some (.laload, 81, 0, .null, 0), some (.lcmp, 82, 0, .null, 0), some (.ifCond .ne 6, 85, 88, .null, 0), none, none, some (.iinc 5 1, 88, 0, .int 1, 0), none, none, some (.iinc 6 1, 91, 0, .int 1, 0), none, none, some (.goto (-73), 94, 18, .null, 0), none, none, some (.iload_n 3, 95, 0, .null, 0), some (.iload 5, 97, 0, .null, 0)],
  [none, some (.invokestatic 327, 100, 1002, .null, 601), none, none, some (.istore_n 3, 101, 0, .null, 0), some (.iinc 4 1, 104, 0, .int 1, 0), none, none, some (.goto (-99), 107, 5, .null, 0), none, none, some (.iload_n 3, 108, 0, .null, 0), some (.ireturn, 109, 0, .null, 0)]])
def mX7_mixSpan : iMeth := (yX7_mixSpan, cX7_mixSpan, 6, (some .long), 2, 17, [684, 73, 683, 19], [
  [some (.lload_n 1, 1, 0, .null, 0), some (.lstore 4, 3, 0, .null, 0), none, some (.ldc2_w 283, 6, 0, .long 31, 677), none, none, some (.lload 4, 8, 0, .null, 0), none, some (.lmul, 9, 0, .null, 0), some (.aload_n 0, 10, 0, .null, 0), some (.iload_n 3, 11, 0, .null, 0), some (.iconst 0, 12, 0, .int 0, 0), some (.invokevirtual 330, 15, 45, .null, 685), none, none, some (.i2l, 16, 0, .null, 0)],
  [some (.ladd, 17, 0, .null, 0), some (.lstore 4, 19, 0, .null, 0), none, some (.ldc2_w 283, 22, 0, .long 31, 677), none, none, some (.lload 4, 24, 0, .null, 0), none, some (.lmul, 25, 0, .null, 0), some (.aload_n 0, 26, 0, .null, 0), some (.iload_n 3, 27, 0, .null, 0), some (.iconst 1, 28, 0, .int 1, 0), some (.invokevirtual 330, 31, 45, .null, 685), none, none, some (.i2l, 32, 0, .null, 0)],
  [some (.ladd, 33, 0, .null, 0), some (.lstore 4, 35, 0, .null, 0), none, some (.ldc2_w 283, 38, 0, .long 31, 677), none, none, some (.lload 4, 40, 0, .null, 0), none, some (.lmul, 41, 0, .null, 0), some (.aload_n 0, 42, 0, .null, 0), some (.bipush 7, 44, 0, .int 7, 0), none, some (.iload_n 3, 45, 0, .null, 0), some (.iconst 0, 46, 0, .int 0, 0), some (.invokevirtual 333, 49, 50, .null, 686), none],
  [none, some (.i2l, 50, 0, .null, 0), some (.ladd, 51, 0, .null, 0), some (.lstore 4, 53, 0, .null, 0), none, some (.ldc2_w 283, 56, 0, .long 31, 677), none, none, some (.lload 4, 58, 0, .null, 0), none, some (.lmul, 59, 0, .null, 0), some (.aload_n 0, 60, 0, .null, 0), some (.bipush 7, 62, 0, .int 7, 0), none, some (.iload_n 3, 63, 0, .null, 0), some (.iconst 1, 64, 0, .int 1, 0)],
  [some (.invokevirtual 333, 67, 50, .null, 686), none, none, some (.i2l, 68, 0, .null, 0), some (.ladd, 69, 0, .null, 0), some (.lstore 4, 71, 0, .null, 0), none, some (.ldc2_w 283, 74, 0, .long 31, 677), none, none, some (.lload 4, 76, 0, .null, 0), none, some (.lmul, 77, 0, .null, 0), some (.aload_n 0, 78, 0, .null, 0), some (.bipush 18, 80, 0, .int 18, 0), none],
  [some (.iload_n 3, 81, 0, .null, 0), some (.iconst 0, 82, 0, .int 0, 0), some (.invokevirtual 333, 85, 50, .null, 686), none, none, some (.i2l, 86, 0, .null, 0), some (.ladd, 87, 0, .null, 0), some (.lstore 4, 89, 0, .null, 0), none, some (.ldc2_w 283, 92, 0, .long 31, 677), none, none, some (.lload 4, 94, 0, .null, 0), none, some (.lmul, 95, 0, .null, 0), some (.aload_n 0, 96, 0, .null, 0)],
  [some (.bipush 18, 98, 0, .int 18, 0), none, some (.iload_n 3, 99, 0, .null, 0), some (.iconst 1, 100, 0, .int 1, 0), some (.invokevirtual 333, 103, 50, .null, 686), none, none, some (.i2l, 104, 0, .null, 0), some (.ladd, 105, 0, .null, 0), some (.lstore 4, 107, 0, .null, 0), none, some (.ldc2_w 283, 110, 0, .long 31, 677), none, none, some (.lload 4, 112, 0, .null, 0), none],
  [some (.lmul, 113, 0, .null, 0), some (.aload_n 0, 114, 0, .null, 0), some (.iload_n 3, 115, 0, .null, 0), some (.invokevirtual 337, 118, 65, .null, 687), none, none, some (.i2l, 119, 0, .null, 0), some (.ladd, 120, 0, .null, 0), some (.lreturn, 121, 0, .null, 0)]])
def mX7_mixLogMinutes : iMeth := (yX7_mixLogMinutes, cX7_mixLogMinutes, 10, (some .long), 2, 17, [691, 73, 690, 20], [
  [some (.lload_n 1, 1, 0, .null, 0), some (.lstore 4, 3, 0, .null, 0), none, some (.iconst 0, 4, 0, .int 0, 0), some (.istore 6, 6, 0, .null, 0), none, some (.iload 6, 8, 0, .null, 0), none, some (.iconst 2, 9, 0, .int 2, 0), some (.if_icmp .gt 26, 12, 35, .null, 0), none, none, some (.ldc2_w 283, 15, 0, .long 31, 677), none, none, some (.lload 4, 17, 0, .null, 0)],
  [none, some (.lmul, 18, 0, .null, 0), some (.aload_n 0, 19, 0, .null, 0), some (.iload_n 3, 20, 0, .null, 0), some (.iload 6, 22, 0, .null, 0), none, some (.invokevirtual 340, 25, 46, .null, 692), none, none, some (.i2l, 26, 0, .null, 0), some (.ladd, 27, 0, .null, 0), some (.lstore 4, 29, 0, .null, 0), none, some (.iinc 6 1, 32, 0, .int 1, 0), none, none],
  [some (.goto (-26), 35, 6, .null, 0), none, none, some (.getstatic 343, 38, 0, .null, 693), none, none, some (.astore 6, 40, 0, .null, 0), none, some (.aload 6, 42, 0, .null, 0), none, some (.arraylength, 43, 0, .null, 0), some (.istore 7, 45, 0, .null, 0), none, some (.iconst 0, 46, 0, .int 0, 0), some (.istore 8, 48, 0, .null, 0), none],
  [some (.iload 8, 50, 0, .null, 0), none, some (.iload 7, 52, 0, .null, 0), none, some (.if_icmp .ge 52, 55, 104, .null, 0), none, none, some (.aload 6, 57, 0, .null, 0), none, some (.iload 8, 59, 0, .null, 0), none, some (.iaload, 60, 0, .null, 0), some (.istore 9, 62, 0, .null, 0), none, some (.ldc2_w 283, 65, 0, .long 31, 677), none],
  [none, some (.lload 4, 67, 0, .null, 0), none, some (.lmul, 68, 0, .null, 0), some (.aload_n 0, 69, 0, .null, 0), some (.iload 9, 71, 0, .null, 0), none, some (.iload_n 3, 72, 0, .null, 0), some (.iconst 0, 73, 0, .int 0, 0), some (.invokevirtual 346, 76, 51, .null, 695), none, none, some (.i2l, 77, 0, .null, 0), some (.ladd, 78, 0, .null, 0), some (.lstore 4, 80, 0, .null, 0), none],
  [some (.ldc2_w 283, 83, 0, .long 31, 677), none, none, some (.lload 4, 85, 0, .null, 0), none, some (.lmul, 86, 0, .null, 0), some (.aload_n 0, 87, 0, .null, 0), some (.iload 9, 89, 0, .null, 0), none, some (.iload_n 3, 90, 0, .null, 0), some (.iconst 1, 91, 0, .int 1, 0), some (.invokevirtual 346, 94, 51, .null, 695), none, none, some (.i2l, 95, 0, .null, 0), some (.ladd, 96, 0, .null, 0)],
  [some (.lstore 4, 98, 0, .null, 0), none, some (.iinc 8 1, 101, 0, .int 1, 0), none, none, some (.goto (-53), 104, 48, .null, 0), none, none, some (.iconst 0, 105, 0, .int 0, 0), some (.istore 6, 107, 0, .null, 0), none, some (.iload 6, 109, 0, .null, 0), none, some (.iconst 2, 110, 0, .int 2, 0), some (.if_icmp .gt 26, 113, 136, .null, 0), none],
  [none, some (.ldc2_w 283, 116, 0, .long 31, 677), none, none, some (.lload 4, 118, 0, .null, 0), none, some (.lmul, 119, 0, .null, 0), some (.aload_n 0, 120, 0, .null, 0), some (.iload_n 3, 121, 0, .null, 0), some (.iload 6, 123, 0, .null, 0), none, some (.invokevirtual 349, 126, 53, .null, 696), none, none, some (.i2l, 127, 0, .null, 0), some (.ladd, 128, 0, .null, 0)],
  [some (.lstore 4, 130, 0, .null, 0), none, some (.iinc 6 1, 133, 0, .int 1, 0), none, none, some (.goto (-26), 136, 107, .null, 0), none, none, some (.lload 4, 138, 0, .null, 0), none, some (.lreturn, 139, 0, .null, 0)]])
def mX7_mixLogPlans : iMeth := (yX7_mixLogPlans, cX7_mixLogPlans, 6, (some .long), 2, 17, [700, 73, 699, 21], [
  [some (.lload_n 1, 1, 0, .null, 0), some (.lstore 4, 3, 0, .null, 0), none, some (.ldc2_w 283, 6, 0, .long 31, 677), none, none, some (.lload 4, 8, 0, .null, 0), none, some (.lmul, 9, 0, .null, 0), some (.aload_n 0, 10, 0, .null, 0), some (.iload_n 3, 11, 0, .null, 0), some (.iconst 0, 12, 0, .int 0, 0), some (.invokevirtual 352, 15, 57, .null, 701), none, none, some (.i2l, 16, 0, .null, 0)],
  [some (.ladd, 17, 0, .null, 0), some (.lstore 4, 19, 0, .null, 0), none, some (.ldc2_w 283, 22, 0, .long 31, 677), none, none, some (.lload 4, 24, 0, .null, 0), none, some (.lmul, 25, 0, .null, 0), some (.aload_n 0, 26, 0, .null, 0), some (.iload_n 3, 27, 0, .null, 0), some (.iconst 1, 28, 0, .int 1, 0), some (.invokevirtual 352, 31, 57, .null, 701), none, none, some (.i2l, 32, 0, .null, 0)],
  [some (.ladd, 33, 0, .null, 0), some (.lstore 4, 35, 0, .null, 0), none, some (.ldc2_w 283, 38, 0, .long 31, 677), none, none, some (.lload 4, 40, 0, .null, 0), none, some (.lmul, 41, 0, .null, 0), some (.aload_n 0, 42, 0, .null, 0), some (.iload_n 3, 43, 0, .null, 0), some (.invokevirtual 355, 46, 64, .null, 702), none, none, some (.i2l, 47, 0, .null, 0), some (.ladd, 48, 0, .null, 0)],
  [some (.lstore 4, 50, 0, .null, 0), none, some (.ldc2_w 283, 53, 0, .long 31, 677), none, none, some (.lload 4, 55, 0, .null, 0), none, some (.lmul, 56, 0, .null, 0), some (.aload_n 0, 57, 0, .null, 0), some (.iload_n 3, 58, 0, .null, 0), some (.invokevirtual 358, 61, 66, .null, 703), none, none, some (.i2l, 62, 0, .null, 0), some (.ladd, 63, 0, .null, 0), some (.lstore 4, 65, 0, .null, 0)],
  [none, some (.ldc2_w 283, 68, 0, .long 31, 677), none, none, some (.lload 4, 70, 0, .null, 0), none, some (.lmul, 71, 0, .null, 0), some (.aload_n 0, 72, 0, .null, 0), some (.iconst 5, 73, 0, .int 5, 0), some (.iload_n 3, 74, 0, .null, 0), some (.iconst 0, 75, 0, .int 0, 0), some (.invokevirtual 361, 78, 67, .null, 704), none, none, some (.ladd, 79, 0, .null, 0), some (.lstore 4, 81, 0, .null, 0)],
  [none, some (.ldc2_w 283, 84, 0, .long 31, 677), none, none, some (.lload 4, 86, 0, .null, 0), none, some (.lmul, 87, 0, .null, 0), some (.aload_n 0, 88, 0, .null, 0), some (.iconst 5, 89, 0, .int 5, 0), some (.iload_n 3, 90, 0, .null, 0), some (.iconst 1, 91, 0, .int 1, 0), some (.invokevirtual 361, 94, 67, .null, 704), none, none, some (.ladd, 95, 0, .null, 0), some (.lreturn, 96, 0, .null, 0)]])
def mX7_mixWhole : iMeth := (yX7_mixWhole, cX7_mixWhole, 5, (some .long), 1, 17, [708, 73, 707, 22], [
  [some (.lload_n 1, 1, 0, .null, 0), some (.lstore_n 3, 2, 0, .null, 0), some (.ldc2_w 283, 5, 0, .long 31, 677), none, none, some (.lload_n 3, 6, 0, .null, 0), some (.lmul, 7, 0, .null, 0), some (.aload_n 0, 8, 0, .null, 0), some (.invokevirtual 365, 11, 54, .null, 709), none, none, some (.i2l, 12, 0, .null, 0), some (.ladd, 13, 0, .null, 0), some (.lstore_n 3, 14, 0, .null, 0), some (.ldc2_w 283, 17, 0, .long 31, 677), none],
  [none, some (.lload_n 3, 18, 0, .null, 0), some (.lmul, 19, 0, .null, 0), some (.aload_n 0, 20, 0, .null, 0), some (.iconst 0, 21, 0, .int 0, 0), some (.invokevirtual 368, 24, 55, .null, 710), none, none, some (.i2l, 25, 0, .null, 0), some (.ladd, 26, 0, .null, 0), some (.lstore_n 3, 27, 0, .null, 0), some (.ldc2_w 283, 30, 0, .long 31, 677), none, none, some (.lload_n 3, 31, 0, .null, 0), some (.lmul, 32, 0, .null, 0)],
  [some (.aload_n 0, 33, 0, .null, 0), some (.iconst 1, 34, 0, .int 1, 0), some (.invokevirtual 368, 37, 55, .null, 710), none, none, some (.i2l, 38, 0, .null, 0), some (.ladd, 39, 0, .null, 0), some (.lstore_n 3, 40, 0, .null, 0), some (.ldc2_w 283, 43, 0, .long 31, 677), none, none, some (.lload_n 3, 44, 0, .null, 0), some (.lmul, 45, 0, .null, 0), some (.aload_n 0, 46, 0, .null, 0), some (.invokevirtual 371, 49, 56, .null, 711), none],
  [none, some (.i2l, 50, 0, .null, 0), some (.ladd, 51, 0, .null, 0), some (.lstore_n 3, 52, 0, .null, 0), some (.ldc2_w 283, 55, 0, .long 31, 677), none, none, some (.lload_n 3, 56, 0, .null, 0), some (.lmul, 57, 0, .null, 0), some (.aload_n 0, 58, 0, .null, 0), some (.iconst 0, 59, 0, .int 0, 0), some (.invokevirtual 374, 62, 58, .null, 712), none, none, some (.i2l, 63, 0, .null, 0), some (.ladd, 64, 0, .null, 0)],
  [some (.lstore_n 3, 65, 0, .null, 0), some (.ldc2_w 283, 68, 0, .long 31, 677), none, none, some (.lload_n 3, 69, 0, .null, 0), some (.lmul, 70, 0, .null, 0), some (.aload_n 0, 71, 0, .null, 0), some (.iconst 1, 72, 0, .int 1, 0), some (.invokevirtual 374, 75, 58, .null, 712), none, none, some (.i2l, 76, 0, .null, 0), some (.ladd, 77, 0, .null, 0), some (.lstore_n 3, 78, 0, .null, 0), some (.ldc2_w 283, 81, 0, .long 31, 677), none],
  [none, some (.lload_n 3, 82, 0, .null, 0), some (.lmul, 83, 0, .null, 0), some (.aload_n 0, 84, 0, .null, 0), some (.iconst 0, 85, 0, .int 0, 0), some (.invokevirtual 377, 88, 59, .null, 713), none, none, some (.i2l, 89, 0, .null, 0), some (.ladd, 90, 0, .null, 0), some (.lstore_n 3, 91, 0, .null, 0), some (.ldc2_w 283, 94, 0, .long 31, 677), none, none, some (.lload_n 3, 95, 0, .null, 0), some (.lmul, 96, 0, .null, 0)],
  [some (.aload_n 0, 97, 0, .null, 0), some (.iconst 1, 98, 0, .int 1, 0), some (.invokevirtual 377, 101, 59, .null, 713), none, none, some (.i2l, 102, 0, .null, 0), some (.ladd, 103, 0, .null, 0), some (.lstore_n 3, 104, 0, .null, 0), some (.ldc2_w 283, 107, 0, .long 31, 677), none, none, some (.lload_n 3, 108, 0, .null, 0), some (.lmul, 109, 0, .null, 0), some (.aload_n 0, 110, 0, .null, 0), some (.iconst (-1), 111, 0, .int (-1), 0), some (.invokevirtual 380, 114, 60, .null, 714)],
  [none, none, some (.i2l, 115, 0, .null, 0), some (.ladd, 116, 0, .null, 0), some (.lstore_n 3, 117, 0, .null, 0), some (.ldc2_w 283, 120, 0, .long 31, 677), none, none, some (.lload_n 3, 121, 0, .null, 0), some (.lmul, 122, 0, .null, 0), some (.aload_n 0, 123, 0, .null, 0), some (.iconst 0, 124, 0, .int 0, 0), some (.invokevirtual 380, 127, 60, .null, 714), none, none, some (.i2l, 128, 0, .null, 0)],
  [some (.ladd, 129, 0, .null, 0), some (.lstore_n 3, 130, 0, .null, 0), some (.ldc2_w 283, 133, 0, .long 31, 677), none, none, some (.lload_n 3, 134, 0, .null, 0), some (.lmul, 135, 0, .null, 0), some (.aload_n 0, 136, 0, .null, 0), some (.invokevirtual 383, 139, 63, .null, 715), none, none, some (.i2l, 140, 0, .null, 0), some (.ladd, 141, 0, .null, 0), some (.lstore_n 3, 142, 0, .null, 0), some (.ldc2_w 283, 145, 0, .long 31, 677), none],
  [none, some (.lload_n 3, 146, 0, .null, 0), some (.lmul, 147, 0, .null, 0), some (.aload_n 0, 148, 0, .null, 0), some (.bipush 7, 150, 0, .int 7, 0), none, some (.bipush 11, 152, 0, .int 11, 0), none, some (.iconst 0, 153, 0, .int 0, 0), some (.invokevirtual 386, 156, 68, .null, 716), none, none, some (.i2l, 157, 0, .null, 0), some (.ladd, 158, 0, .null, 0), some (.lstore_n 3, 159, 0, .null, 0), some (.ldc2_w 283, 162, 0, .long 31, 677)],
  [none, none, some (.lload_n 3, 163, 0, .null, 0), some (.lmul, 164, 0, .null, 0), some (.aload_n 0, 165, 0, .null, 0), some (.bipush 7, 167, 0, .int 7, 0), none, some (.bipush 11, 169, 0, .int 11, 0), none, some (.iconst 1, 170, 0, .int 1, 0), some (.invokevirtual 386, 173, 68, .null, 716), none, none, some (.i2l, 174, 0, .null, 0), some (.ladd, 175, 0, .null, 0), some (.lreturn, 176, 0, .null, 0)]])
def mX8_init : iMeth := (yX8_init, cX8_init, 2, none, 0, 2, [721, 82, 720, 0], [
  [some (.aload_n 0, 1, 0, .null, 0), some (.invokespecial 1, 4, 1000, .null, 722), none, none, some (.aload_n 0, 5, 0, .null, 0), some (.iconst 4, 6, 0, .int 4, 0), some (.newarray .int, 8, 0, .null, 0), none, some (.putfield 7, 11, 512, .null, 723), none, none, some (.aload_n 0, 12, 0, .null, 0), some (.iconst 4, 13, 0, .int 4, 0), some (.newarray .int, 15, 0, .null, 0), none, some (.putfield 13, 18, 513, .null, 724)],
  [none, none, some (.aload_n 0, 19, 0, .null, 0), some (.sipush 240, 22, 0, .int 240, 0), none, none, some (.newarray .int, 24, 0, .null, 0), none, some (.putfield 16, 27, 514, .null, 725), none, none, some (.aload_n 0, 28, 0, .null, 0), some (.bipush 60, 30, 0, .int 60, 0), none, some (.newarray .int, 32, 0, .null, 0), none],
  [some (.putfield 19, 35, 515, .null, 726), none, none, some (.aload_n 0, 36, 0, .null, 0), some (.bipush 96, 38, 0, .int 96, 0), none, some (.newarray .int, 40, 0, .null, 0), none, some (.putfield 22, 43, 517, .null, 728), none, none, some (.aload_n 0, 44, 0, .null, 0), some (.iconst 3, 45, 0, .int 3, 0), some (.newarray .int, 47, 0, .null, 0), none, some (.putfield 25, 50, 518, .null, 729)],
  [none, none, some (.aload_n 0, 51, 0, .null, 0), some (.bipush 16, 53, 0, .int 16, 0), none, some (.newarray .int, 55, 0, .null, 0), none, some (.putfield 28, 58, 519, .null, 730), none, none, some (.aload_n 0, 59, 0, .null, 0), some (.bipush 16, 61, 0, .int 16, 0), none, some (.newarray .int, 63, 0, .null, 0), none, some (.putfield 31, 66, 520, .null, 731)],
  [none, none, some (.aload_n 0, 67, 0, .null, 0), some (.bipush 24, 69, 0, .int 24, 0), none, some (.newarray .int, 71, 0, .null, 0), none, some (.putfield 34, 74, 522, .null, 733), none, none, some (.aload_n 0, 75, 0, .null, 0), some (.bipush 24, 77, 0, .int 24, 0), none, some (.newarray .int, 79, 0, .null, 0), none, some (.putfield 37, 82, 524, .null, 735)],
  [none, none, some (.aload_n 0, 83, 0, .null, 0), some (.bipush 16, 85, 0, .int 16, 0), none, some (.newarray .int, 87, 0, .null, 0), none, some (.putfield 40, 90, 526, .null, 737), none, none, some (.aload_n 0, 91, 0, .null, 0), some (.bipush 8, 93, 0, .int 8, 0), none, some (.newarray .int, 95, 0, .null, 0), none, some (.putfield 43, 98, 527, .null, 738)],
  [none, none, some (.aload_n 0, 99, 0, .null, 0), some (.bipush 8, 101, 0, .int 8, 0), none, some (.newarray .int, 103, 0, .null, 0), none, some (.putfield 46, 106, 528, .null, 739), none, none, some (.aload_n 0, 107, 0, .null, 0), some (.bipush 8, 109, 0, .int 8, 0), none, some (.newarray .int, 111, 0, .null, 0), none, some (.putfield 49, 114, 529, .null, 740)],
  [none, none, some (.aload_n 0, 115, 0, .null, 0), some (.bipush 8, 117, 0, .int 8, 0), none, some (.newarray .int, 119, 0, .null, 0), none, some (.putfield 52, 122, 530, .null, 741), none, none, some (.aload_n 0, 123, 0, .null, 0), some (.bipush 8, 125, 0, .int 8, 0), none, some (.newarray .int, 127, 0, .null, 0), none, some (.putfield 55, 130, 531, .null, 742)],
  [none, none, some (.aload_n 0, 131, 0, .null, 0), some (.sipush 384, 134, 0, .int 384, 0), none, none, some (.newarray .int, 136, 0, .null, 0), none, some (.putfield 58, 139, 532, .null, 743), none, none, some (.aload_n 0, 140, 0, .null, 0), some (.sipush 192, 143, 0, .int 192, 0), none, none, some (.newarray .int, 145, 0, .null, 0)],
  [none, some (.putfield 61, 148, 533, .null, 744), none, none, some (.aload_n 0, 149, 0, .null, 0), some (.sipush 192, 152, 0, .int 192, 0), none, none, some (.newarray .int, 154, 0, .null, 0), none, some (.putfield 64, 157, 534, .null, 745), none, none, some (.aload_n 0, 158, 0, .null, 0), some (.bipush 24, 160, 0, .int 24, 0), none],
  [some (.newarray .int, 162, 0, .null, 0), none, some (.putfield 67, 165, 536, .null, 747), none, none, some (.aload_n 0, 166, 0, .null, 0), some (.sipush 240, 169, 0, .int 240, 0), none, none, some (.newarray .long, 171, 0, .null, 0), none, some (.putfield 70, 174, 537, .null, 748), none, none, some (.iconst 0, 175, 0, .int 0, 0), some (.istore_n 1, 176, 0, .null, 0)],
  [some (.iload_n 1, 177, 0, .null, 0), some (.iconst 4, 178, 0, .int 4, 0), some (.if_icmp .ge 16, 181, 194, .null, 0), none, none, some (.aload_n 0, 182, 0, .null, 0), some (.getfield 7, 185, 512, .null, 723), none, none, some (.iload_n 1, 186, 0, .null, 0), some (.iconst (-1), 187, 0, .int (-1), 0), some (.iastore, 188, 0, .null, 0), some (.iinc 1 1, 191, 0, .int 1, 0), none, none, some (.goto (-15), 194, 176, .null, 0)],
  [none, none, some (.return_, 195, 0, .null, 0)]])
def mX8_in : iMeth := (yX8_in, cX8_in, 6, (some .boolean), 3, 0, [815, 82, 814, 0], [
  [some (.lload_n 0, 1, 0, .null, 0), some (.lload_n 2, 2, 0, .null, 0), some (.lcmp, 3, 0, .null, 0), some (.ifCond .lt 14, 6, 17, .null, 0), none, none, some (.lload_n 0, 7, 0, .null, 0), some (.lload 4, 9, 0, .null, 0), none, some (.lcmp, 10, 0, .null, 0), some (.ifCond .gt 7, 13, 17, .null, 0), none, none, some (.iconst 1, 14, 0, .int 1, 0), some (.goto 4, 17, 18, .null, 0), none],
  [none, some (.iconst 0, 18, 0, .int 0, 0), some (.ireturn, 19, 0, .null, 0)]])
def mX8_no : iMeth := (yX8_no, cX8_no, 1, (some .long), 1, 0, [1158, 82, 1157, 0], [
  [some (.ldc2_w 74, 3, 0, .long (-9223372036854775808), 1159), none, none, some (.iload_n 0, 4, 0, .null, 0), some (.i2l, 5, 0, .null, 0), some (.lsub, 6, 0, .null, 0), some (.lreturn, 7, 0, .null, 0)]])
def mX8_isTwo : iMeth := (yX8_isTwo, cX8_isTwo, 1, (some .boolean), 1, 0, [907, 82, 906, 0], [
  [some (.iload_n 0, 1, 0, .null, 0), some (.i2l, 2, 0, .null, 0), some (.lconst 0, 3, 0, .long 0, 0), some (.lconst 1, 4, 0, .long 1, 0), some (.invokestatic 76, 7, 99, .null, 813), none, none, some (.ireturn, 8, 0, .null, 0)]])
def mX8_isIn : iMeth := (yX8_isIn, cX8_isIn, 2, (some .boolean), 2, 0, [963, 82, 962, 0], [
  [some (.iload_n 0, 1, 0, .null, 0), some (.iload_n 1, 2, 0, .null, 0), some (.ishr, 3, 0, .null, 0), some (.iconst 1, 4, 0, .int 1, 0), some (.iand, 5, 0, .null, 0), some (.iconst 1, 6, 0, .int 1, 0), some (.if_icmp .ne 7, 9, 13, .null, 0), none, none, some (.iconst 1, 10, 0, .int 1, 0), some (.goto 4, 13, 14, .null, 0), none, none, some (.iconst 0, 14, 0, .int 0, 0), some (.ireturn, 15, 0, .null, 0)]])
def mX8_lesser : iMeth := (yX8_lesser, cX8_lesser, 2, (some .int), 2, 0, [966, 82, 965, 0], [
  [some (.iload_n 0, 1, 0, .null, 0), some (.iload_n 1, 2, 0, .null, 0), some (.if_icmp .ge 7, 5, 9, .null, 0), none, none, some (.iload_n 0, 6, 0, .null, 0), some (.goto 4, 9, 10, .null, 0), none, none, some (.iload_n 1, 10, 0, .null, 0), some (.ireturn, 11, 0, .null, 0)]])
def mX8_greater : iMeth := (yX8_greater, cX8_greater, 2, (some .int), 2, 0, [1036, 82, 1035, 0], [
  [some (.iload_n 0, 1, 0, .null, 0), some (.iload_n 1, 2, 0, .null, 0), some (.if_icmp .le 7, 5, 9, .null, 0), none, none, some (.iload_n 0, 6, 0, .null, 0), some (.goto 4, 9, 10, .null, 0), none, none, some (.iload_n 1, 10, 0, .null, 0), some (.ireturn, 11, 0, .null, 0)]])
def mX8_part : iMeth := (yX8_part, cX8_part, 11, (some .long), 3, 0, [1155, 82, 1154, 0], [
  [some (.lload_n 0, 1, 0, .null, 0), some (.lstore 5, 3, 0, .null, 0), none, some (.lload_n 2, 4, 0, .null, 0), some (.lstore 7, 6, 0, .null, 0), none, some (.lload 7, 8, 0, .null, 0), none, some (.lconst 0, 9, 0, .long 0, 0), some (.lcmp, 10, 0, .null, 0), some (.ifCond .eq 21, 13, 31, .null, 0), none, none, some (.lload 5, 15, 0, .null, 0), none, some (.lload 7, 17, 0, .null, 0)],
  [none, some (.lrem, 18, 0, .null, 0), some (.lstore 9, 20, 0, .null, 0), none, some (.lload 7, 22, 0, .null, 0), none, some (.lstore 5, 24, 0, .null, 0), none, some (.lload 9, 26, 0, .null, 0), none, some (.lstore 7, 28, 0, .null, 0), none, some (.goto (-22), 31, 6, .null, 0), none, none, some (.iload 4, 33, 0, .null, 0)],
  [none, some (.ifCond .ne 7, 36, 40, .null, 0), none, none, some (.lload_n 0, 37, 0, .null, 0), some (.goto 4, 40, 41, .null, 0), none, none, some (.lload_n 2, 41, 0, .null, 0), some (.lload 5, 43, 0, .null, 0), none, some (.ldiv, 44, 0, .null, 0), some (.lreturn, 45, 0, .null, 0)]])
def mX8_finds : iMeth := (yX8_finds, cX8_finds, 2, (some .int), 1, 18, [820, 82, 819, 23], [
  [some (.aload_n 0, 1, 0, .null, 0), some (.iload_n 1, 2, 0, .null, 0), some (.putfield 80, 5, 516, .null, 727), none, none, some (.bipush (-10), 7, 0, .int (-10), 0), none, some (.iload_n 1, 8, 0, .null, 0), some (.isub, 9, 0, .null, 0), some (.ireturn, 10, 0, .null, 0)]])
def mX8_isSheet : iMeth := (yX8_isSheet, cX8_isSheet, 1, (some .boolean), 1, 0, [811, 82, 810, 0], [
  [some (.iload_n 0, 1, 0, .null, 0), some (.i2l, 2, 0, .null, 0), some (.lconst 0, 3, 0, .long 0, 0), some (.ldc2_w 84, 6, 0, .long 3, 812), none, none, some (.invokestatic 76, 9, 99, .null, 813), none, none, some (.ireturn, 10, 0, .null, 0)]])
def mX8_sheet : iMeth := (yX8_sheet, cX8_sheet, 5, (some .int), 3, 18, [808, 82, 806, 807], [
  [some (.iload_n 1, 1, 0, .null, 0), some (.invokestatic 86, 4, 107, .null, 809), none, none, some (.ifCond .eq 21, 7, 25, .null, 0), none, none, some (.iload_n 2, 8, 0, .null, 0), some (.i2l, 9, 0, .null, 0), some (.lconst 0, 10, 0, .long 0, 0), some (.ldc2_w 90, 13, 0, .long 2, 816), none, none, some (.invokestatic 76, 16, 99, .null, 813), none, none],
  [some (.ifCond .eq 9, 19, 25, .null, 0), none, none, some (.iload_n 3, 20, 0, .null, 0), some (.bipush 60, 22, 0, .int 60, 0), none, some (.if_icmp .le 6, 25, 28, .null, 0), none, none, some (.bipush (-2), 27, 0, .int (-2), 0), none, some (.ireturn, 28, 0, .null, 0), some (.iload_n 3, 29, 0, .null, 0), some (.ifCond .ge 9, 32, 38, .null, 0), none, none],
  [some (.aload_n 0, 33, 0, .null, 0), some (.iconst 5, 34, 0, .int 5, 0), some (.invokevirtual 92, 37, 106, .null, 817), none, none, some (.ireturn, 38, 0, .null, 0), some (.aload_n 0, 39, 0, .null, 0), some (.getfield 7, 42, 512, .null, 723), none, none, some (.iload_n 1, 43, 0, .null, 0), some (.iload_n 2, 44, 0, .null, 0), some (.iastore, 45, 0, .null, 0), some (.aload_n 0, 46, 0, .null, 0), some (.getfield 13, 49, 513, .null, 724), none],
  [none, some (.iload_n 1, 50, 0, .null, 0), some (.iload_n 3, 51, 0, .null, 0), some (.iastore, 52, 0, .null, 0), some (.iconst 0, 53, 0, .int 0, 0), some (.istore 4, 55, 0, .null, 0), none, some (.iload 4, 57, 0, .null, 0), none, some (.iload_n 3, 58, 0, .null, 0), some (.if_icmp .ge 22, 61, 80, .null, 0), none, none, some (.aload_n 0, 62, 0, .null, 0), some (.getfield 16, 65, 514, .null, 725), none],
  [none, some (.bipush 60, 67, 0, .int 60, 0), none, some (.iload_n 1, 68, 0, .null, 0), some (.imul, 69, 0, .null, 0), some (.iload 4, 71, 0, .null, 0), none, some (.iadd, 72, 0, .null, 0), some (.iconst 0, 73, 0, .int 0, 0), some (.iastore, 74, 0, .null, 0), some (.iinc 4 1, 77, 0, .int 1, 0), none, none, some (.goto (-22), 80, 55, .null, 0), none, none],
  [some (.iload_n 3, 81, 0, .null, 0), some (.ireturn, 82, 0, .null, 0)]])
def mX8_lose : iMeth := (yX8_lose, cX8_lose, 2, (some .int), 1, 18, [824, 82, 822, 823], [
  [some (.iload_n 1, 1, 0, .null, 0), some (.invokestatic 86, 4, 107, .null, 809), none, none, some (.ifCond .ne 6, 7, 10, .null, 0), none, none, some (.bipush (-2), 9, 0, .int (-2), 0), none, some (.ireturn, 10, 0, .null, 0), some (.aload_n 0, 11, 0, .null, 0), some (.getfield 7, 14, 512, .null, 723), none, none, some (.iload_n 1, 15, 0, .null, 0), some (.iaload, 16, 0, .null, 0)],
  [some (.ifCond .ge 9, 19, 25, .null, 0), none, none, some (.aload_n 0, 20, 0, .null, 0), some (.iconst 1, 21, 0, .int 1, 0), some (.invokevirtual 92, 24, 106, .null, 817), none, none, some (.ireturn, 25, 0, .null, 0), some (.aload_n 0, 26, 0, .null, 0), some (.getfield 7, 29, 512, .null, 723), none, none, some (.iload_n 1, 30, 0, .null, 0), some (.iconst (-1), 31, 0, .int (-1), 0), some (.iastore, 32, 0, .null, 0)],
  [some (.aload_n 0, 33, 0, .null, 0), some (.getfield 13, 36, 513, .null, 724), none, none, some (.iload_n 1, 37, 0, .null, 0), some (.iaload, 38, 0, .null, 0), some (.ireturn, 39, 0, .null, 0)]])
def mX8_lacks : iMeth := (yX8_lacks, cX8_lacks, 4, (some .int), 3, 18, [832, 82, 831, 24], [
  [some (.aload_n 0, 1, 0, .null, 0), some (.getfield 7, 4, 512, .null, 723), none, none, some (.iload_n 1, 5, 0, .null, 0), some (.iaload, 6, 0, .null, 0), some (.ifCond .ge 9, 9, 15, .null, 0), none, none, some (.aload_n 0, 10, 0, .null, 0), some (.iconst 1, 11, 0, .int 1, 0), some (.invokevirtual 92, 14, 106, .null, 817), none, none, some (.ireturn, 15, 0, .null, 0), some (.aload_n 0, 16, 0, .null, 0)],
  [some (.getfield 7, 19, 512, .null, 723), none, none, some (.iload_n 1, 20, 0, .null, 0), some (.iaload, 21, 0, .null, 0), some (.iload_n 2, 22, 0, .null, 0), some (.if_icmp .eq 9, 25, 31, .null, 0), none, none, some (.aload_n 0, 26, 0, .null, 0), some (.iconst 3, 27, 0, .int 3, 0), some (.invokevirtual 92, 30, 106, .null, 817), none, none, some (.ireturn, 31, 0, .null, 0), some (.iload_n 3, 32, 0, .null, 0)],
  [some (.i2l, 33, 0, .null, 0), some (.lconst 0, 34, 0, .long 0, 0), some (.aload_n 0, 35, 0, .null, 0), some (.getfield 13, 38, 513, .null, 724), none, none, some (.iload_n 1, 39, 0, .null, 0), some (.iaload, 40, 0, .null, 0), some (.iconst 1, 41, 0, .int 1, 0), some (.isub, 42, 0, .null, 0), some (.i2l, 43, 0, .null, 0), some (.invokestatic 76, 46, 99, .null, 813), none, none, some (.ifCond .eq 7, 49, 53, .null, 0), none],
  [none, some (.iconst 0, 50, 0, .int 0, 0), some (.goto 8, 53, 58, .null, 0), none, none, some (.aload_n 0, 54, 0, .null, 0), some (.iconst 2, 55, 0, .int 2, 0), some (.invokevirtual 92, 58, 106, .null, 817), none, none, some (.ireturn, 59, 0, .null, 0)]])
def mX8_cut : iMeth := (yX8_cut, cX8_cut, 2, (some .int), 2, 0, [835, 82, 834, 0], [
  [some (.iload_n 0, 1, 0, .null, 0), some (.ifCond .ne 8, 4, 9, .null, 0), none, none, some (.iload_n 1, 5, 0, .null, 0), some (.i2b, 6, 0, .null, 0), some (.goto 14, 9, 20, .null, 0), none, none, some (.iload_n 0, 10, 0, .null, 0), some (.iconst 1, 11, 0, .int 1, 0), some (.if_icmp .ne 8, 14, 19, .null, 0), none, none, some (.iload_n 1, 15, 0, .null, 0), some (.i2s, 16, 0, .null, 0)],
  [some (.goto 4, 19, 20, .null, 0), none, none, some (.iload_n 1, 20, 0, .null, 0), some (.ireturn, 21, 0, .null, 0)]])
def mX8_lay : iMeth := (yX8_lay, cX8_lay, 6, (some .int), 4, 18, [828, 82, 826, 827], [
  [some (.iload_n 1, 1, 0, .null, 0), some (.invokestatic 86, 4, 107, .null, 809), none, none, some (.ifCond .eq 15, 7, 19, .null, 0), none, none, some (.iload_n 2, 8, 0, .null, 0), some (.i2l, 9, 0, .null, 0), some (.lconst 0, 10, 0, .long 0, 0), some (.ldc2_w 90, 13, 0, .long 2, 816), none, none, some (.invokestatic 76, 16, 99, .null, 813), none, none],
  [some (.ifCond .ne 6, 19, 22, .null, 0), none, none, some (.bipush (-2), 21, 0, .int (-2), 0), none, some (.ireturn, 22, 0, .null, 0), some (.aload_n 0, 23, 0, .null, 0), some (.iload_n 1, 24, 0, .null, 0), some (.iload_n 2, 25, 0, .null, 0), some (.iload_n 3, 26, 0, .null, 0), some (.invokevirtual 96, 29, 110, .null, 829), none, none, some (.istore 5, 31, 0, .null, 0), none, some (.iload 5, 33, 0, .null, 0)],
  [none, some (.ifCond .eq 6, 36, 39, .null, 0), none, none, some (.iload 5, 38, 0, .null, 0), none, some (.ireturn, 39, 0, .null, 0), some (.aload_n 0, 40, 0, .null, 0), some (.getfield 16, 43, 514, .null, 725), none, none, some (.bipush 60, 45, 0, .int 60, 0), none, some (.iload_n 1, 46, 0, .null, 0), some (.imul, 47, 0, .null, 0), some (.iload_n 3, 48, 0, .null, 0)],
  [some (.iadd, 49, 0, .null, 0), some (.iload_n 2, 50, 0, .null, 0), some (.iload 4, 52, 0, .null, 0), none, some (.invokestatic 100, 55, 111, .null, 833), none, none, some (.iastore, 56, 0, .null, 0), some (.iconst 1, 57, 0, .int 1, 0), some (.ireturn, 58, 0, .null, 0)]])
def mX8_get : iMeth := (yX8_get, cX8_get, 4, (some .int), 3, 18, [839, 82, 837, 838], [
  [some (.iload_n 1, 1, 0, .null, 0), some (.invokestatic 86, 4, 107, .null, 809), none, none, some (.ifCond .eq 25, 7, 29, .null, 0), none, none, some (.iload_n 2, 8, 0, .null, 0), some (.i2l, 9, 0, .null, 0), some (.lconst 0, 10, 0, .long 0, 0), some (.ldc2_w 90, 13, 0, .long 2, 816), none, none, some (.invokestatic 76, 16, 99, .null, 813), none, none],
  [some (.ifCond .eq 13, 19, 29, .null, 0), none, none, some (.aload_n 0, 20, 0, .null, 0), some (.iload_n 1, 21, 0, .null, 0), some (.iload_n 2, 22, 0, .null, 0), some (.iload_n 3, 23, 0, .null, 0), some (.invokevirtual 96, 26, 110, .null, 829), none, none, some (.ifCond .eq 6, 29, 32, .null, 0), none, none, some (.ldc 104, 31, 0, .int (-2147483648), 840), none, some (.ireturn, 32, 0, .null, 0)],
  [some (.aload_n 0, 33, 0, .null, 0), some (.getfield 16, 36, 514, .null, 725), none, none, some (.bipush 60, 38, 0, .int 60, 0), none, some (.iload_n 1, 39, 0, .null, 0), some (.imul, 40, 0, .null, 0), some (.iload_n 3, 41, 0, .null, 0), some (.iadd, 42, 0, .null, 0), some (.iaload, 43, 0, .null, 0), some (.ireturn, 44, 0, .null, 0)]])
def mX8_copy : iMeth := (yX8_copy, cX8_copy, 7, (some .int), 5, 18, [844, 82, 842, 843], [
  [some (.iload_n 1, 1, 0, .null, 0), some (.invokestatic 86, 4, 107, .null, 809), none, none, some (.ifCond .eq 10, 7, 14, .null, 0), none, none, some (.iload_n 3, 8, 0, .null, 0), some (.invokestatic 86, 11, 107, .null, 809), none, none, some (.ifCond .ne 6, 14, 17, .null, 0), none, none, some (.bipush (-2), 16, 0, .int (-2), 0), none],
  [some (.ireturn, 17, 0, .null, 0), some (.aload_n 0, 18, 0, .null, 0), some (.getfield 7, 21, 512, .null, 723), none, none, some (.iload_n 1, 22, 0, .null, 0), some (.iaload, 23, 0, .null, 0), some (.ifCond .lt 12, 26, 35, .null, 0), none, none, some (.aload_n 0, 27, 0, .null, 0), some (.getfield 7, 30, 512, .null, 723), none, none, some (.iload_n 3, 31, 0, .null, 0), some (.iaload, 32, 0, .null, 0)],
  [some (.ifCond .ge 9, 35, 41, .null, 0), none, none, some (.aload_n 0, 36, 0, .null, 0), some (.iconst 1, 37, 0, .int 1, 0), some (.invokevirtual 92, 40, 106, .null, 817), none, none, some (.ireturn, 41, 0, .null, 0), some (.aload_n 0, 42, 0, .null, 0), some (.getfield 7, 45, 512, .null, 723), none, none, some (.iload_n 1, 46, 0, .null, 0), some (.iaload, 47, 0, .null, 0), some (.aload_n 0, 48, 0, .null, 0)],
  [some (.getfield 7, 51, 512, .null, 723), none, none, some (.iload_n 3, 52, 0, .null, 0), some (.iaload, 53, 0, .null, 0), some (.if_icmp .eq 9, 56, 62, .null, 0), none, none, some (.aload_n 0, 57, 0, .null, 0), some (.iconst 4, 58, 0, .int 4, 0), some (.invokevirtual 92, 61, 106, .null, 817), none, none, some (.ireturn, 62, 0, .null, 0), some (.iload_n 2, 63, 0, .null, 0), some (.ifCond .lt 48, 66, 111, .null, 0)],
  [none, none, some (.iload 4, 68, 0, .null, 0), none, some (.ifCond .lt 43, 71, 111, .null, 0), none, none, some (.iload 5, 73, 0, .null, 0), none, some (.ifCond .lt 38, 76, 111, .null, 0), none, none, some (.iload_n 2, 77, 0, .null, 0), some (.i2l, 78, 0, .null, 0), some (.iload 5, 80, 0, .null, 0), none],
  [some (.i2l, 81, 0, .null, 0), some (.ladd, 82, 0, .null, 0), some (.aload_n 0, 83, 0, .null, 0), some (.getfield 13, 86, 513, .null, 724), none, none, some (.iload_n 1, 87, 0, .null, 0), some (.iaload, 88, 0, .null, 0), some (.i2l, 89, 0, .null, 0), some (.lcmp, 90, 0, .null, 0), some (.ifCond .gt 21, 93, 111, .null, 0), none, none, some (.iload 4, 95, 0, .null, 0), none, some (.i2l, 96, 0, .null, 0)],
  [some (.iload 5, 98, 0, .null, 0), none, some (.i2l, 99, 0, .null, 0), some (.ladd, 100, 0, .null, 0), some (.aload_n 0, 101, 0, .null, 0), some (.getfield 13, 104, 513, .null, 724), none, none, some (.iload_n 3, 105, 0, .null, 0), some (.iaload, 106, 0, .null, 0), some (.i2l, 107, 0, .null, 0), some (.lcmp, 108, 0, .null, 0), some (.ifCond .le 9, 111, 117, .null, 0), none, none, some (.aload_n 0, 112, 0, .null, 0)],
  [some (.iconst 2, 113, 0, .int 2, 0), some (.invokevirtual 92, 116, 106, .null, 817), none, none, some (.ireturn, 117, 0, .null, 0), some (.iconst 0, 118, 0, .int 0, 0), some (.istore 6, 120, 0, .null, 0), none, some (.iload 6, 122, 0, .null, 0), none, some (.iload 5, 124, 0, .null, 0), none, some (.if_icmp .ge 30, 127, 154, .null, 0), none, none, some (.aload_n 0, 128, 0, .null, 0)],
  [some (.getfield 19, 131, 515, .null, 726), none, none, some (.iload 6, 133, 0, .null, 0), none, some (.aload_n 0, 134, 0, .null, 0), some (.getfield 16, 137, 514, .null, 725), none, none, some (.bipush 60, 139, 0, .int 60, 0), none, some (.iload_n 1, 140, 0, .null, 0), some (.imul, 141, 0, .null, 0), some (.iload_n 2, 142, 0, .null, 0), some (.iadd, 143, 0, .null, 0), some (.iload 6, 145, 0, .null, 0)],
  [none, some (.iadd, 146, 0, .null, 0), some (.iaload, 147, 0, .null, 0), some (.iastore, 148, 0, .null, 0), some (.iinc 6 1, 151, 0, .int 1, 0), none, none, some (.goto (-31), 154, 120, .null, 0), none, none, some (.iconst 0, 155, 0, .int 0, 0), some (.istore 6, 157, 0, .null, 0), none, some (.iload 6, 159, 0, .null, 0), none, some (.iload 5, 161, 0, .null, 0)],
  [none, some (.if_icmp .ge 31, 164, 192, .null, 0), none, none, some (.aload_n 0, 165, 0, .null, 0), some (.getfield 16, 168, 514, .null, 725), none, none, some (.bipush 60, 170, 0, .int 60, 0), none, some (.iload_n 3, 171, 0, .null, 0), some (.imul, 172, 0, .null, 0), some (.iload 4, 174, 0, .null, 0), none, some (.iadd, 175, 0, .null, 0), some (.iload 6, 177, 0, .null, 0)],
  [none, some (.iadd, 178, 0, .null, 0), some (.aload_n 0, 179, 0, .null, 0), some (.getfield 19, 182, 515, .null, 726), none, none, some (.iload 6, 184, 0, .null, 0), none, some (.iaload, 185, 0, .null, 0), some (.iastore, 186, 0, .null, 0), some (.iinc 6 1, 189, 0, .int 1, 0), none, none, some (.goto (-32), 192, 157, .null, 0), none, none],
  [some (.iconst 1, 193, 0, .int 1, 0), some (.ireturn, 194, 0, .null, 0)]])
def mX8_isText : iMeth := (yX8_isText, cX8_isText, 1, (some .boolean), 1, 0, [851, 82, 850, 0], [
  [some (.iload_n 0, 1, 0, .null, 0), some (.i2l, 2, 0, .null, 0), some (.lconst 0, 3, 0, .long 0, 0), some (.ldc2_w 90, 6, 0, .long 2, 816), none, none, some (.invokestatic 76, 9, 99, .null, 813), none, none, some (.ireturn, 10, 0, .null, 0)]])
def mX8_type : iMeth := (yX8_type, cX8_type, 3, (some .int), 2, 18, [848, 82, 846, 847], [
  [some (.iload_n 1, 1, 0, .null, 0), some (.invokestatic 105, 4, 115, .null, 849), none, none, some (.ifCond .eq 15, 7, 19, .null, 0), none, none, some (.iload_n 2, 8, 0, .null, 0), some (.i2l, 9, 0, .null, 0), some (.lconst 0, 10, 0, .long 0, 0), some (.ldc2_w 108, 13, 0, .long 255, 852), none, none, some (.invokestatic 76, 16, 99, .null, 813), none, none],
  [some (.ifCond .ne 6, 19, 22, .null, 0), none, none, some (.bipush (-2), 21, 0, .int (-2), 0), none, some (.ireturn, 22, 0, .null, 0), some (.aload_n 0, 23, 0, .null, 0), some (.getfield 25, 26, 518, .null, 729), none, none, some (.iload_n 1, 27, 0, .null, 0), some (.iaload, 28, 0, .null, 0), some (.iload_n 1, 29, 0, .null, 0), some (.iconst 2, 30, 0, .int 2, 0), some (.if_icmp .ne 8, 33, 38, .null, 0), none],
  [none, some (.bipush 31, 35, 0, .int 31, 0), none, some (.goto 5, 38, 40, .null, 0), none, none, some (.bipush 16, 40, 0, .int 16, 0), none, some (.if_icmp .ne 6, 43, 46, .null, 0), none, none, some (.bipush (-4), 45, 0, .int (-4), 0), none, some (.ireturn, 46, 0, .null, 0), some (.aload_n 0, 47, 0, .null, 0), some (.getfield 22, 50, 517, .null, 728)],
  [none, none, some (.bipush 32, 52, 0, .int 32, 0), none, some (.iload_n 1, 53, 0, .null, 0), some (.imul, 54, 0, .null, 0), some (.aload_n 0, 55, 0, .null, 0), some (.getfield 25, 58, 518, .null, 729), none, none, some (.iload_n 1, 59, 0, .null, 0), some (.iaload, 60, 0, .null, 0), some (.iadd, 61, 0, .null, 0), some (.iload_n 2, 62, 0, .null, 0), some (.iastore, 63, 0, .null, 0), some (.aload_n 0, 64, 0, .null, 0)],
  [some (.getfield 25, 67, 518, .null, 729), none, none, some (.iload_n 1, 68, 0, .null, 0), some (.dup2, 69, 0, .null, 0), some (.iaload, 70, 0, .null, 0), some (.iconst 1, 71, 0, .int 1, 0), some (.iadd, 72, 0, .null, 0), some (.iastore, 73, 0, .null, 0), some (.aload_n 0, 74, 0, .null, 0), some (.getfield 25, 77, 518, .null, 729), none, none, some (.iload_n 1, 78, 0, .null, 0), some (.iaload, 79, 0, .null, 0), some (.ireturn, 80, 0, .null, 0)]])
def mX8_wipe : iMeth := (yX8_wipe, cX8_wipe, 3, (some .int), 1, 18, [856, 82, 854, 855], [
  [some (.iload_n 1, 1, 0, .null, 0), some (.invokestatic 105, 4, 115, .null, 849), none, none, some (.ifCond .ne 6, 7, 10, .null, 0), none, none, some (.bipush (-2), 9, 0, .int (-2), 0), none, some (.ireturn, 10, 0, .null, 0), some (.aload_n 0, 11, 0, .null, 0), some (.getfield 25, 14, 518, .null, 729), none, none, some (.iload_n 1, 15, 0, .null, 0), some (.iaload, 16, 0, .null, 0)],
  [some (.istore_n 2, 17, 0, .null, 0), some (.aload_n 0, 18, 0, .null, 0), some (.getfield 25, 21, 518, .null, 729), none, none, some (.iload_n 1, 22, 0, .null, 0), some (.iconst 0, 23, 0, .int 0, 0), some (.iastore, 24, 0, .null, 0), some (.iload_n 2, 25, 0, .null, 0), some (.ireturn, 26, 0, .null, 0)]])
def mX8_undo : iMeth := (yX8_undo, cX8_undo, 2, (some .int), 1, 18, [860, 82, 858, 859], [
  [some (.iload_n 1, 1, 0, .null, 0), some (.invokestatic 105, 4, 115, .null, 849), none, none, some (.ifCond .ne 6, 7, 10, .null, 0), none, none, some (.bipush (-2), 9, 0, .int (-2), 0), none, some (.ireturn, 10, 0, .null, 0), some (.aload_n 0, 11, 0, .null, 0), some (.getfield 25, 14, 518, .null, 729), none, none, some (.iload_n 1, 15, 0, .null, 0), some (.iaload, 16, 0, .null, 0)],
  [some (.ifCond .ne 6, 19, 22, .null, 0), none, none, some (.bipush (-3), 21, 0, .int (-3), 0), none, some (.ireturn, 22, 0, .null, 0), some (.aload_n 0, 23, 0, .null, 0), some (.getfield 25, 26, 518, .null, 729), none, none, some (.iload_n 1, 27, 0, .null, 0), some (.dup2, 28, 0, .null, 0), some (.iaload, 29, 0, .null, 0), some (.iconst 1, 30, 0, .int 1, 0), some (.isub, 31, 0, .null, 0), some (.iastore, 32, 0, .null, 0)],
  [some (.aload_n 0, 33, 0, .null, 0), some (.getfield 25, 36, 518, .null, 729), none, none, some (.iload_n 1, 37, 0, .null, 0), some (.iaload, 38, 0, .null, 0), some (.ireturn, 39, 0, .null, 0)]])
def mX8_figureOf : iMeth := (yX8_figureOf, cX8_figureOf, 3, (some .int), 3, 0, [879, 82, 878, 0], [
  [some (.iload_n 0, 1, 0, .null, 0), some (.i2l, 2, 0, .null, 0), some (.bipush 48, 4, 0, .int 48, 0), none, some (.iload_n 1, 5, 0, .null, 0), some (.iadd, 6, 0, .null, 0), some (.i2l, 7, 0, .null, 0), some (.bipush 48, 9, 0, .int 48, 0), none, some (.iload_n 2, 10, 0, .null, 0), some (.iadd, 11, 0, .null, 0), some (.i2l, 12, 0, .null, 0), some (.invokestatic 76, 15, 99, .null, 813), none, none, some (.ifCond .eq 10, 18, 25, .null, 0)],
  [none, none, some (.iload_n 0, 19, 0, .null, 0), some (.bipush 48, 21, 0, .int 48, 0), none, some (.isub, 22, 0, .null, 0), some (.goto 5, 25, 27, .null, 0), none, none, some (.bipush (-9), 27, 0, .int (-9), 0), none, some (.ireturn, 28, 0, .null, 0)]])
def mX8_gentle : iMeth := (yX8_gentle, cX8_gentle, 2, none, 0, 18, [876, 82, 875, 27], [
  [some (.iconst 0, 1, 0, .int 0, 0), some (.istore_n 1, 2, 0, .null, 0), some (.iload_n 1, 3, 0, .null, 0), some (.bipush 16, 5, 0, .int 16, 0), none, some (.if_icmp .ge 16, 8, 21, .null, 0), none, none, some (.aload_n 0, 9, 0, .null, 0), some (.getfield 28, 12, 519, .null, 730), none, none, some (.iload_n 1, 13, 0, .null, 0), some (.iconst 1, 14, 0, .int 1, 0), some (.iastore, 15, 0, .null, 0), some (.iinc 1 1, 18, 0, .int 1, 0)],
  [none, none, some (.goto (-16), 21, 2, .null, 0), none, none, some (.return_, 22, 0, .null, 0)]])
def mX8_readsSlopes : iMeth := (yX8_readsSlopes, cX8_readsSlopes, 3, (some .int), 0, 18, [872, 82, 871, 26], [
  [some (.aload_n 0, 1, 0, .null, 0), some (.invokevirtual 110, 4, 120, .null, 873), none, none, some (.iconst 0, 5, 0, .int 0, 0), some (.istore_n 1, 6, 0, .null, 0), some (.iload_n 1, 7, 0, .null, 0), some (.aload_n 0, 8, 0, .null, 0), some (.getfield 25, 11, 518, .null, 729), none, none, some (.iconst 0, 12, 0, .int 0, 0), some (.iaload, 13, 0, .null, 0), some (.if_icmp .ge 40, 16, 53, .null, 0), none, none],
  [some (.aload_n 0, 17, 0, .null, 0), some (.getfield 22, 20, 517, .null, 728), none, none, some (.iload_n 1, 21, 0, .null, 0), some (.iaload, 22, 0, .null, 0), some (.iconst 1, 23, 0, .int 1, 0), some (.iconst 3, 24, 0, .int 3, 0), some (.invokestatic 113, 27, 119, .null, 877), none, none, some (.istore_n 2, 28, 0, .null, 0), some (.iload_n 2, 29, 0, .null, 0), some (.bipush (-9), 31, 0, .int (-9), 0), none, some (.if_icmp .ne 9, 34, 40, .null, 0)],
  [none, none, some (.aload_n 0, 35, 0, .null, 0), some (.invokevirtual 110, 38, 120, .null, 873), none, none, some (.iload_n 1, 39, 0, .null, 0), some (.ireturn, 40, 0, .null, 0), some (.aload_n 0, 41, 0, .null, 0), some (.getfield 28, 44, 519, .null, 730), none, none, some (.iload_n 1, 45, 0, .null, 0), some (.iload_n 2, 46, 0, .null, 0), some (.iastore, 47, 0, .null, 0), some (.iinc 1 1, 50, 0, .int 1, 0)],
  [none, none, some (.goto (-44), 53, 6, .null, 0), none, none, some (.iconst (-1), 54, 0, .int (-1), 0), some (.ireturn, 55, 0, .null, 0)]])
def mX8_dries : iMeth := (yX8_dries, cX8_dries, 2, none, 0, 18, [887, 82, 886, 29], [
  [some (.iconst 0, 1, 0, .int 0, 0), some (.istore_n 1, 2, 0, .null, 0), some (.iload_n 1, 3, 0, .null, 0), some (.bipush 16, 5, 0, .int 16, 0), none, some (.if_icmp .ge 16, 8, 21, .null, 0), none, none, some (.aload_n 0, 9, 0, .null, 0), some (.getfield 31, 12, 520, .null, 731), none, none, some (.iload_n 1, 13, 0, .null, 0), some (.iconst 0, 14, 0, .int 0, 0), some (.iastore, 15, 0, .null, 0), some (.iinc 1 1, 18, 0, .int 1, 0)],
  [none, none, some (.goto (-16), 21, 2, .null, 0), none, none, some (.return_, 22, 0, .null, 0)]])
def mX8_readsFeeders : iMeth := (yX8_readsFeeders, cX8_readsFeeders, 3, (some .int), 0, 18, [883, 82, 882, 28], [
  [some (.aload_n 0, 1, 0, .null, 0), some (.invokevirtual 116, 4, 122, .null, 884), none, none, some (.iconst 0, 5, 0, .int 0, 0), some (.istore_n 1, 6, 0, .null, 0), some (.iload_n 1, 7, 0, .null, 0), some (.aload_n 0, 8, 0, .null, 0), some (.getfield 25, 11, 518, .null, 729), none, none, some (.iconst 1, 12, 0, .int 1, 0), some (.iaload, 13, 0, .null, 0), some (.if_icmp .ge 44, 16, 57, .null, 0), none, none],
  [some (.aload_n 0, 17, 0, .null, 0), some (.getfield 22, 20, 517, .null, 728), none, none, some (.bipush 32, 22, 0, .int 32, 0), none, some (.iload_n 1, 23, 0, .null, 0), some (.iadd, 24, 0, .null, 0), some (.iaload, 25, 0, .null, 0), some (.iconst 0, 26, 0, .int 0, 0), some (.bipush 9, 28, 0, .int 9, 0), none, some (.invokestatic 113, 31, 119, .null, 877), none, none, some (.istore_n 2, 32, 0, .null, 0)],
  [some (.iload_n 2, 33, 0, .null, 0), some (.bipush (-9), 35, 0, .int (-9), 0), none, some (.if_icmp .ne 9, 38, 44, .null, 0), none, none, some (.aload_n 0, 39, 0, .null, 0), some (.invokevirtual 116, 42, 122, .null, 884), none, none, some (.iload_n 1, 43, 0, .null, 0), some (.ireturn, 44, 0, .null, 0), some (.aload_n 0, 45, 0, .null, 0), some (.getfield 31, 48, 520, .null, 731), none, none],
  [some (.iload_n 1, 49, 0, .null, 0), some (.iload_n 2, 50, 0, .null, 0), some (.iastore, 51, 0, .null, 0), some (.iinc 1 1, 54, 0, .int 1, 0), none, none, some (.goto (-48), 57, 6, .null, 0), none, none, some (.iconst (-1), 58, 0, .int (-1), 0), some (.ireturn, 59, 0, .null, 0)]])
def mX8_logOf : iMeth := (yX8_logOf, cX8_logOf, 2, (some .int), 2, 0, [894, 82, 893, 0], [
  [some (.iload_n 0, 1, 0, .null, 0), some (.tableswitch 82 0 2 #[27, 51, 59], 28, 0, .null, 0), none, none, none, none, none, none, none, none, none, none, none, none, none, none],
  [none, none, none, none, none, none, none, none, none, none, none, none, some (.iload_n 1, 29, 0, .null, 0), some (.i2l, 30, 0, .null, 0), some (.ldc2_w 119, 33, 0, .long 97, 895), none],
  [none, some (.ldc2_w 121, 36, 0, .long 120, 896), none, none, some (.invokestatic 76, 39, 99, .null, 813), none, none, some (.ifCond .eq 10, 42, 49, .null, 0), none, none, some (.iload_n 1, 43, 0, .null, 0), some (.bipush 97, 45, 0, .int 97, 0), none, some (.isub, 46, 0, .null, 0), some (.goto 5, 49, 51, .null, 0), none],
  [none, some (.bipush (-9), 51, 0, .int (-9), 0), none, some (.ireturn, 52, 0, .null, 0), some (.iload_n 1, 53, 0, .null, 0), some (.iconst 1, 54, 0, .int 1, 0), some (.bipush 9, 56, 0, .int 9, 0), none, some (.invokestatic 113, 59, 119, .null, 877), none, none, some (.ireturn, 60, 0, .null, 0), some (.iload_n 1, 61, 0, .null, 0), some (.bipush 115, 63, 0, .int 115, 0), none, some (.if_icmp .ne 7, 66, 70, .null, 0)],
  [none, none, some (.iconst 0, 67, 0, .int 0, 0), some (.goto 15, 70, 82, .null, 0), none, none, some (.iload_n 1, 71, 0, .null, 0), some (.bipush 108, 73, 0, .int 108, 0), none, some (.if_icmp .ne 7, 76, 80, .null, 0), none, none, some (.iconst 1, 77, 0, .int 1, 0), some (.goto 5, 80, 82, .null, 0), none, none],
  [some (.bipush (-9), 82, 0, .int (-9), 0), none, some (.ireturn, 83, 0, .null, 0), some (.iload_n 1, 84, 0, .null, 0), some (.bipush 59, 86, 0, .int 59, 0), none, some (.if_icmp .ne 7, 89, 93, .null, 0), none, none, some (.iconst 0, 90, 0, .int 0, 0), some (.goto 5, 93, 95, .null, 0), none, none, some (.bipush (-9), 95, 0, .int (-9), 0), none, some (.ireturn, 96, 0, .null, 0)]])
def mX8_readsLogs : iMeth := (yX8_readsLogs, cX8_readsLogs, 5, (some .int), 0, 18, [891, 82, 890, 30], [
  [some (.aload_n 0, 1, 0, .null, 0), some (.iconst 0, 2, 0, .int 0, 0), some (.putfield 123, 5, 521, .null, 732), none, none, some (.aload_n 0, 6, 0, .null, 0), some (.getfield 25, 9, 518, .null, 729), none, none, some (.iconst 2, 10, 0, .int 2, 0), some (.iaload, 11, 0, .null, 0), some (.istore_n 1, 12, 0, .null, 0), some (.iconst 0, 13, 0, .int 0, 0), some (.istore_n 2, 14, 0, .null, 0), some (.iload_n 2, 15, 0, .null, 0), some (.iload_n 1, 16, 0, .null, 0)],
  [some (.if_icmp .ge 80, 19, 96, .null, 0), none, none, some (.iload_n 2, 20, 0, .null, 0), some (.iconst 4, 21, 0, .int 4, 0), some (.irem, 22, 0, .null, 0), some (.istore_n 3, 23, 0, .null, 0), some (.iload_n 3, 24, 0, .null, 0), some (.aload_n 0, 25, 0, .null, 0), some (.getfield 22, 28, 517, .null, 728), none, none, some (.bipush 64, 30, 0, .int 64, 0), none, some (.iload_n 2, 31, 0, .null, 0), some (.iadd, 32, 0, .null, 0)],
  [some (.iaload, 33, 0, .null, 0), some (.invokestatic 126, 36, 124, .null, 892), none, none, some (.istore 4, 38, 0, .null, 0), none, some (.iload 4, 40, 0, .null, 0), none, some (.bipush (-9), 42, 0, .int (-9), 0), none, some (.if_icmp .ne 10, 45, 52, .null, 0), none, none, some (.aload_n 0, 46, 0, .null, 0), some (.iconst 0, 47, 0, .int 0, 0), some (.putfield 123, 50, 521, .null, 732)],
  [none, none, some (.iload_n 2, 51, 0, .null, 0), some (.ireturn, 52, 0, .null, 0), some (.iload_n 3, 53, 0, .null, 0), some (.iconst 3, 54, 0, .int 3, 0), some (.if_icmp .ge 17, 57, 71, .null, 0), none, none, some (.aload_n 0, 58, 0, .null, 0), some (.getfield 34, 61, 522, .null, 733), none, none, some (.iconst 3, 62, 0, .int 3, 0), some (.iload_n 2, 63, 0, .null, 0), some (.iconst 4, 64, 0, .int 4, 0)],
  [some (.idiv, 65, 0, .null, 0), some (.imul, 66, 0, .null, 0), some (.iload_n 3, 67, 0, .null, 0), some (.iadd, 68, 0, .null, 0), some (.iload 4, 70, 0, .null, 0), none, some (.iastore, 71, 0, .null, 0), some (.aload_n 0, 72, 0, .null, 0), some (.dup, 73, 0, .null, 0), some (.getfield 123, 76, 521, .null, 732), none, none, some (.iload_n 3, 77, 0, .null, 0), some (.iconst 2, 78, 0, .int 2, 0), some (.if_icmp .ne 7, 81, 85, .null, 0), none],
  [none, some (.iconst 1, 82, 0, .int 1, 0), some (.goto 4, 85, 86, .null, 0), none, none, some (.iconst 0, 86, 0, .int 0, 0), some (.iadd, 87, 0, .null, 0), some (.putfield 123, 90, 521, .null, 732), none, none, some (.iinc 2 1, 93, 0, .int 1, 0), none, none, some (.goto (-79), 96, 14, .null, 0), none, none],
  [some (.iload_n 1, 97, 0, .null, 0), some (.ifCond .le 17, 100, 114, .null, 0), none, none, some (.iload_n 1, 101, 0, .null, 0), some (.iconst 4, 102, 0, .int 4, 0), some (.irem, 103, 0, .null, 0), some (.iconst 3, 104, 0, .int 3, 0), some (.if_icmp .eq 10, 107, 114, .null, 0), none, none, some (.aload_n 0, 108, 0, .null, 0), some (.iconst 0, 109, 0, .int 0, 0), some (.putfield 123, 112, 521, .null, 732), none, none],
  [some (.iload_n 1, 113, 0, .null, 0), some (.ireturn, 114, 0, .null, 0), some (.iconst (-1), 115, 0, .int (-1), 0), some (.ireturn, 116, 0, .null, 0)]])
def mX8_readsText : iMeth := (yX8_readsText, cX8_readsText, 2, (some .int), 1, 18, [868, 82, 867, 25], [
  [some (.iload_n 1, 1, 0, .null, 0), some (.ifCond .ne 10, 4, 11, .null, 0), none, none, some (.aload_n 0, 5, 0, .null, 0), some (.invokevirtual 129, 8, 121, .null, 869), none, none, some (.goto 19, 11, 27, .null, 0), none, none, some (.iload_n 1, 12, 0, .null, 0), some (.iconst 1, 13, 0, .int 1, 0), some (.if_icmp .ne 10, 16, 23, .null, 0), none, none],
  [some (.aload_n 0, 17, 0, .null, 0), some (.invokevirtual 133, 20, 123, .null, 880), none, none, some (.goto 7, 23, 27, .null, 0), none, none, some (.aload_n 0, 24, 0, .null, 0), some (.invokevirtual 136, 27, 125, .null, 888), none, none, some (.ireturn, 28, 0, .null, 0)]])
def mX8_fault : iMeth := (yX8_fault, cX8_fault, 2, (some .int), 1, 18, [864, 82, 862, 863], [
  [some (.iload_n 1, 1, 0, .null, 0), some (.invokestatic 105, 4, 115, .null, 849), none, none, some (.ifCond .eq 11, 7, 15, .null, 0), none, none, some (.aload_n 0, 8, 0, .null, 0), some (.iload_n 1, 9, 0, .null, 0), some (.invokevirtual 139, 12, 126, .null, 865), none, none, some (.goto 5, 15, 17, .null, 0), none, none, some (.bipush (-2), 17, 0, .int (-2), 0)],
  [none, some (.ireturn, 18, 0, .null, 0)]])
def mX8_isSpan : iMeth := (yX8_isSpan, cX8_isSpan, 1, (some .boolean), 1, 0, [903, 82, 902, 0], [
  [some (.iload_n 0, 1, 0, .null, 0), some (.i2l, 2, 0, .null, 0), some (.lconst 0, 3, 0, .long 0, 0), some (.ldc2_w 142, 6, 0, .long 15, 904), none, none, some (.invokestatic 76, 9, 99, .null, 813), none, none, some (.ireturn, 10, 0, .null, 0)]])
def mX8_isMinute : iMeth := (yX8_isMinute, cX8_isMinute, 1, (some .boolean), 1, 0, [926, 82, 925, 0], [
  [some (.iload_n 0, 1, 0, .null, 0), some (.i2l, 2, 0, .null, 0), some (.lconst 0, 3, 0, .long 0, 0), some (.ldc2_w 144, 6, 0, .long 23, 927), none, none, some (.invokestatic 76, 9, 99, .null, 813), none, none, some (.ireturn, 10, 0, .null, 0)]])
def mX8_isLog : iMeth := (yX8_isLog, cX8_isLog, 2, (some .boolean), 1, 18, [919, 82, 918, 32], [
  [some (.iload_n 1, 1, 0, .null, 0), some (.i2l, 2, 0, .null, 0), some (.lconst 0, 3, 0, .long 0, 0), some (.aload_n 0, 4, 0, .null, 0), some (.getfield 123, 7, 521, .null, 732), none, none, some (.iconst 1, 8, 0, .int 1, 0), some (.isub, 9, 0, .null, 0), some (.i2l, 10, 0, .null, 0), some (.invokestatic 76, 13, 99, .null, 813), none, none, some (.ireturn, 14, 0, .null, 0)]])
def mX8_spanBy : iMeth := (yX8_spanBy, cX8_spanBy, 3, (some .int), 2, 18, [911, 82, 910, 31], [
  [some (.iload_n 2, 1, 0, .null, 0), some (.ifCond .ne 12, 4, 13, .null, 0), none, none, some (.aload_n 0, 5, 0, .null, 0), some (.getfield 28, 8, 519, .null, 730), none, none, some (.iload_n 1, 9, 0, .null, 0), some (.iaload, 10, 0, .null, 0), some (.goto 9, 13, 19, .null, 0), none, none, some (.aload_n 0, 14, 0, .null, 0), some (.getfield 31, 17, 520, .null, 731), none],
  [none, some (.iload_n 1, 18, 0, .null, 0), some (.iaload, 19, 0, .null, 0), some (.ireturn, 20, 0, .null, 0)]])
def mX8_span : iMeth := (yX8_span, cX8_span, 3, (some .int), 2, 18, [900, 82, 898, 899], [
  [some (.aload_n 0, 1, 0, .null, 0), some (.invokevirtual 129, 4, 121, .null, 869), none, none, some (.pop, 5, 0, .null, 0), some (.aload_n 0, 6, 0, .null, 0), some (.invokevirtual 133, 9, 123, .null, 880), none, none, some (.pop, 10, 0, .null, 0), some (.iload_n 1, 11, 0, .null, 0), some (.invokestatic 146, 14, 128, .null, 901), none, none, some (.ifCond .eq 19, 17, 33, .null, 0), none],
  [none, some (.iload_n 2, 18, 0, .null, 0), some (.invokestatic 149, 21, 101, .null, 905), none, none, some (.ifCond .eq 12, 24, 33, .null, 0), none, none, some (.aload_n 0, 25, 0, .null, 0), some (.iload_n 1, 26, 0, .null, 0), some (.iload_n 2, 27, 0, .null, 0), some (.invokevirtual 152, 30, 131, .null, 908), none, none, some (.goto 5, 33, 35, .null, 0), none],
  [none, some (.bipush (-2), 35, 0, .int (-2), 0), none, some (.ireturn, 36, 0, .null, 0)]])
def mX8_log : iMeth := (yX8_log, cX8_log, 3, (some .int), 2, 18, [915, 82, 913, 914], [
  [some (.aload_n 0, 1, 0, .null, 0), some (.invokevirtual 136, 4, 125, .null, 888), none, none, some (.pop, 5, 0, .null, 0), some (.aload_n 0, 6, 0, .null, 0), some (.iload_n 1, 7, 0, .null, 0), some (.invokevirtual 155, 10, 130, .null, 916), none, none, some (.ifCond .eq 28, 13, 38, .null, 0), none, none, some (.iload_n 2, 14, 0, .null, 0), some (.i2l, 15, 0, .null, 0), some (.lconst 0, 16, 0, .long 0, 0)],
  [some (.ldc2_w 90, 19, 0, .long 2, 816), none, none, some (.invokestatic 76, 22, 99, .null, 813), none, none, some (.ifCond .eq 16, 25, 38, .null, 0), none, none, some (.aload_n 0, 26, 0, .null, 0), some (.getfield 34, 29, 522, .null, 733), none, none, some (.iconst 3, 30, 0, .int 3, 0), some (.iload_n 1, 31, 0, .null, 0), some (.imul, 32, 0, .null, 0)],
  [some (.iload_n 2, 33, 0, .null, 0), some (.iadd, 34, 0, .null, 0), some (.iaload, 35, 0, .null, 0), some (.goto 5, 38, 40, .null, 0), none, none, some (.bipush (-2), 40, 0, .int (-2), 0), none, some (.ireturn, 41, 0, .null, 0)]])
def mX8_event : iMeth := (yX8_event, cX8_event, 4, (some .int), 3, 18, [923, 82, 921, 922], [
  [some (.iload_n 1, 1, 0, .null, 0), some (.i2l, 2, 0, .null, 0), some (.lconst 0, 3, 0, .long 0, 0), some (.ldc2_w 90, 6, 0, .long 2, 816), none, none, some (.invokestatic 76, 9, 99, .null, 813), none, none, some (.ifCond .eq 17, 12, 26, .null, 0), none, none, some (.iload_n 2, 13, 0, .null, 0), some (.invokestatic 158, 16, 129, .null, 924), none, none],
  [some (.ifCond .eq 10, 19, 26, .null, 0), none, none, some (.iload_n 3, 20, 0, .null, 0), some (.invokestatic 146, 23, 128, .null, 901), none, none, some (.ifCond .ne 6, 26, 29, .null, 0), none, none, some (.bipush (-2), 28, 0, .int (-2), 0), none, some (.ireturn, 29, 0, .null, 0), some (.aload_n 0, 30, 0, .null, 0), some (.getfield 161, 33, 523, .null, 734), none],
  [none, some (.bipush 8, 35, 0, .int 8, 0), none, some (.if_icmp .ne 6, 38, 41, .null, 0), none, none, some (.bipush (-4), 40, 0, .int (-4), 0), none, some (.ireturn, 41, 0, .null, 0), some (.aload_n 0, 42, 0, .null, 0), some (.getfield 37, 45, 524, .null, 735), none, none, some (.iconst 3, 46, 0, .int 3, 0), some (.aload_n 0, 47, 0, .null, 0), some (.getfield 161, 50, 523, .null, 734)],
  [none, none, some (.imul, 51, 0, .null, 0), some (.iload_n 1, 52, 0, .null, 0), some (.iastore, 53, 0, .null, 0), some (.aload_n 0, 54, 0, .null, 0), some (.getfield 37, 57, 524, .null, 735), none, none, some (.iconst 3, 58, 0, .int 3, 0), some (.aload_n 0, 59, 0, .null, 0), some (.getfield 161, 62, 523, .null, 734), none, none, some (.imul, 63, 0, .null, 0), some (.iconst 1, 64, 0, .int 1, 0)],
  [some (.iadd, 65, 0, .null, 0), some (.iload_n 2, 66, 0, .null, 0), some (.iastore, 67, 0, .null, 0), some (.aload_n 0, 68, 0, .null, 0), some (.getfield 37, 71, 524, .null, 735), none, none, some (.iconst 3, 72, 0, .int 3, 0), some (.aload_n 0, 73, 0, .null, 0), some (.getfield 161, 76, 523, .null, 734), none, none, some (.imul, 77, 0, .null, 0), some (.iconst 2, 78, 0, .int 2, 0), some (.iadd, 79, 0, .null, 0), some (.iload_n 3, 80, 0, .null, 0)],
  [some (.iastore, 81, 0, .null, 0), some (.aload_n 0, 82, 0, .null, 0), some (.dup, 83, 0, .null, 0), some (.getfield 161, 86, 523, .null, 734), none, none, some (.iconst 1, 87, 0, .int 1, 0), some (.iadd, 88, 0, .null, 0), some (.putfield 161, 91, 523, .null, 734), none, none, some (.aload_n 0, 92, 0, .null, 0), some (.getfield 161, 95, 523, .null, 734), none, none, some (.ireturn, 96, 0, .null, 0)]])
def mX8_back : iMeth := (yX8_back, cX8_back, 1, (some .int), 0, 18, [931, 82, 929, 930], [
  [some (.aload_n 0, 1, 0, .null, 0), some (.getfield 161, 4, 523, .null, 734), none, none, some (.ifCond .ne 6, 7, 10, .null, 0), none, none, some (.bipush (-3), 9, 0, .int (-3), 0), none, some (.ireturn, 10, 0, .null, 0), some (.aload_n 0, 11, 0, .null, 0), some (.dup, 12, 0, .null, 0), some (.getfield 161, 15, 523, .null, 734), none, none, some (.iconst 1, 16, 0, .int 1, 0)],
  [some (.isub, 17, 0, .null, 0), some (.putfield 161, 20, 523, .null, 734), none, none, some (.aload_n 0, 21, 0, .null, 0), some (.getfield 161, 24, 523, .null, 734), none, none, some (.ireturn, 25, 0, .null, 0)]])
def mX8_read : iMeth := (yX8_read, cX8_read, 5, (some .int), 1, 18, [935, 82, 933, 934], [
  [some (.iload_n 1, 1, 0, .null, 0), some (.invokestatic 86, 4, 107, .null, 809), none, none, some (.ifCond .ne 6, 7, 10, .null, 0), none, none, some (.bipush (-2), 9, 0, .int (-2), 0), none, some (.ireturn, 10, 0, .null, 0), some (.aload_n 0, 11, 0, .null, 0), some (.getfield 7, 14, 512, .null, 723), none, none, some (.iload_n 1, 15, 0, .null, 0), some (.iaload, 16, 0, .null, 0)],
  [some (.ifCond .ge 9, 19, 25, .null, 0), none, none, some (.aload_n 0, 20, 0, .null, 0), some (.iconst 1, 21, 0, .int 1, 0), some (.invokevirtual 92, 24, 106, .null, 817), none, none, some (.ireturn, 25, 0, .null, 0), some (.iconst 0, 26, 0, .int 0, 0), some (.istore_n 2, 27, 0, .null, 0), some (.iconst 1, 28, 0, .int 1, 0), some (.istore_n 3, 29, 0, .null, 0), some (.iload_n 3, 30, 0, .null, 0), some (.ifCond .eq 80, 33, 110, .null, 0), none],
  [none, some (.iconst 3, 34, 0, .int 3, 0), some (.iload_n 2, 35, 0, .null, 0), some (.imul, 36, 0, .null, 0), some (.iconst 3, 37, 0, .int 3, 0), some (.iadd, 38, 0, .null, 0), some (.aload_n 0, 39, 0, .null, 0), some (.getfield 13, 42, 513, .null, 724), none, none, some (.iload_n 1, 43, 0, .null, 0), some (.iaload, 44, 0, .null, 0), some (.if_icmp .gt 66, 47, 110, .null, 0), none, none, some (.bipush 60, 49, 0, .int 60, 0)],
  [none, some (.iload_n 1, 50, 0, .null, 0), some (.imul, 51, 0, .null, 0), some (.iconst 3, 52, 0, .int 3, 0), some (.iload_n 2, 53, 0, .null, 0), some (.imul, 54, 0, .null, 0), some (.iadd, 55, 0, .null, 0), some (.istore 4, 57, 0, .null, 0), none, some (.aload_n 0, 58, 0, .null, 0), some (.aload_n 0, 59, 0, .null, 0), some (.getfield 16, 62, 514, .null, 725), none, none, some (.iload 4, 64, 0, .null, 0), none],
  [some (.iaload, 65, 0, .null, 0), some (.aload_n 0, 66, 0, .null, 0), some (.getfield 16, 69, 514, .null, 725), none, none, some (.iload 4, 71, 0, .null, 0), none, some (.iconst 1, 72, 0, .int 1, 0), some (.iadd, 73, 0, .null, 0), some (.iaload, 74, 0, .null, 0), some (.aload_n 0, 75, 0, .null, 0), some (.getfield 16, 78, 514, .null, 725), none, none, some (.iload 4, 80, 0, .null, 0), none],
  [some (.iconst 2, 81, 0, .int 2, 0), some (.iadd, 82, 0, .null, 0), some (.iaload, 83, 0, .null, 0), some (.invokevirtual 164, 86, 134, .null, 936), none, none, some (.ifCond .lt 7, 89, 93, .null, 0), none, none, some (.iconst 1, 90, 0, .int 1, 0), some (.goto 4, 93, 94, .null, 0), none, none, some (.iconst 0, 94, 0, .int 0, 0), some (.istore_n 3, 95, 0, .null, 0), some (.iload_n 2, 96, 0, .null, 0)],
  [some (.iload_n 3, 97, 0, .null, 0), some (.ifCond .eq 7, 100, 104, .null, 0), none, none, some (.iconst 1, 101, 0, .int 1, 0), some (.goto 4, 104, 105, .null, 0), none, none, some (.iconst 0, 105, 0, .int 0, 0), some (.iadd, 106, 0, .null, 0), some (.istore_n 2, 107, 0, .null, 0), some (.goto (-78), 110, 29, .null, 0), none, none, some (.iload_n 2, 111, 0, .null, 0), some (.ireturn, 112, 0, .null, 0)]])
def mX8_told : iMeth := (yX8_told, cX8_told, 5, (some .int), 2, 18, [960, 82, 959, 37], [
  [some (.iconst 0, 1, 0, .int 0, 0), some (.istore_n 3, 2, 0, .null, 0), some (.iconst 0, 3, 0, .int 0, 0), some (.istore 4, 5, 0, .null, 0), none, some (.iload 4, 7, 0, .null, 0), none, some (.aload_n 0, 8, 0, .null, 0), some (.getfield 161, 11, 523, .null, 734), none, none, some (.if_icmp .ge 69, 14, 80, .null, 0), none, none, some (.iload_n 3, 15, 0, .null, 0), some (.aload_n 0, 16, 0, .null, 0)],
  [some (.getfield 37, 19, 524, .null, 735), none, none, some (.iconst 3, 20, 0, .int 3, 0), some (.iload 4, 22, 0, .null, 0), none, some (.imul, 23, 0, .null, 0), some (.iaload, 24, 0, .null, 0), some (.iload_n 1, 25, 0, .null, 0), some (.if_icmp .ne 46, 28, 71, .null, 0), none, none, some (.aload_n 0, 29, 0, .null, 0), some (.getfield 37, 32, 524, .null, 735), none, none],
  [some (.iconst 3, 33, 0, .int 3, 0), some (.iload 4, 35, 0, .null, 0), none, some (.imul, 36, 0, .null, 0), some (.iconst 1, 37, 0, .int 1, 0), some (.iadd, 38, 0, .null, 0), some (.iaload, 39, 0, .null, 0), some (.iload_n 2, 40, 0, .null, 0), some (.if_icmp .ne 31, 43, 71, .null, 0), none, none, some (.aload_n 0, 44, 0, .null, 0), some (.getfield 166, 47, 525, .null, 736), none, none, some (.iload 4, 49, 0, .null, 0)],
  [none, some (.invokestatic 169, 52, 102, .null, 961), none, none, some (.ifCond .ne 19, 55, 71, .null, 0), none, none, some (.iconst 1, 56, 0, .int 1, 0), some (.aload_n 0, 57, 0, .null, 0), some (.getfield 37, 60, 524, .null, 735), none, none, some (.iconst 3, 61, 0, .int 3, 0), some (.iload 4, 63, 0, .null, 0), none, some (.imul, 64, 0, .null, 0)],
  [some (.iconst 2, 65, 0, .int 2, 0), some (.iadd, 66, 0, .null, 0), some (.iaload, 67, 0, .null, 0), some (.ishl, 68, 0, .null, 0), some (.goto 4, 71, 72, .null, 0), none, none, some (.iconst 0, 72, 0, .int 0, 0), some (.ior, 73, 0, .null, 0), some (.istore_n 3, 74, 0, .null, 0), some (.iinc 4 1, 77, 0, .int 1, 0), none, none, some (.goto (-72), 80, 5, .null, 0), none, none],
  [some (.iload_n 3, 81, 0, .null, 0), some (.ireturn, 82, 0, .null, 0)]])
def mX8_flows : iMeth := (yX8_flows, cX8_flows, 7, none, 1, 18, [956, 82, 955, 36], [
  [some (.aload_n 0, 1, 0, .null, 0), some (.iconst 1, 2, 0, .int 1, 0), some (.iload_n 1, 3, 0, .null, 0), some (.invokevirtual 173, 6, 137, .null, 957), none, none, some (.istore_n 2, 7, 0, .null, 0), some (.aload_n 0, 8, 0, .null, 0), some (.iconst 2, 9, 0, .int 2, 0), some (.iload_n 1, 10, 0, .null, 0), some (.invokevirtual 173, 13, 137, .null, 957), none, none, some (.istore_n 3, 14, 0, .null, 0), some (.bipush 15, 16, 0, .int 15, 0), none],
  [some (.istore 4, 18, 0, .null, 0), none, some (.iload 4, 20, 0, .null, 0), none, some (.ifCond .lt 97, 23, 117, .null, 0), none, none, some (.iload 4, 25, 0, .null, 0), none, some (.ifCond .ne 7, 28, 32, .null, 0), none, none, some (.iconst 0, 29, 0, .int 0, 0), some (.goto 12, 32, 41, .null, 0), none, none],
  [some (.aload_n 0, 33, 0, .null, 0), some (.getfield 40, 36, 526, .null, 737), none, none, some (.iload 4, 38, 0, .null, 0), none, some (.iconst 1, 39, 0, .int 1, 0), some (.isub, 40, 0, .null, 0), some (.iaload, 41, 0, .null, 0), some (.istore 5, 43, 0, .null, 0), none, some (.iload 5, 45, 0, .null, 0), none, some (.ifCond .le 10, 48, 55, .null, 0), none, none],
  [some (.iload 5, 50, 0, .null, 0), none, some (.iconst 1, 51, 0, .int 1, 0), some (.isub, 52, 0, .null, 0), some (.goto 4, 55, 56, .null, 0), none, none, some (.iconst 0, 56, 0, .int 0, 0), some (.istore 6, 58, 0, .null, 0), none, some (.iload_n 2, 59, 0, .null, 0), some (.iload 4, 61, 0, .null, 0), none, some (.invokestatic 169, 64, 102, .null, 961), none, none],
  [some (.ifCond .eq 8, 67, 72, .null, 0), none, none, some (.iload 6, 69, 0, .null, 0), none, some (.goto 18, 72, 87, .null, 0), none, none, some (.iload 6, 74, 0, .null, 0), none, some (.aload_n 0, 75, 0, .null, 0), some (.getfield 31, 78, 520, .null, 731), none, none, some (.iload 4, 80, 0, .null, 0), none],
  [some (.iaload, 81, 0, .null, 0), some (.iadd, 82, 0, .null, 0), some (.bipush 20, 84, 0, .int 20, 0), none, some (.invokestatic 176, 87, 103, .null, 964), none, none, some (.istore 6, 89, 0, .null, 0), none, some (.aload_n 0, 90, 0, .null, 0), some (.getfield 40, 93, 526, .null, 737), none, none, some (.iload 4, 95, 0, .null, 0), none, some (.iload_n 3, 96, 0, .null, 0)],
  [some (.iload 4, 98, 0, .null, 0), none, some (.invokestatic 169, 101, 102, .null, 961), none, none, some (.ifCond .eq 7, 104, 108, .null, 0), none, none, some (.iconst 0, 105, 0, .int 0, 0), some (.goto 5, 108, 110, .null, 0), none, none, some (.iload 6, 110, 0, .null, 0), none, some (.iastore, 111, 0, .null, 0), some (.iinc 4 (-1), 114, 0, .int (-1), 0)],
  [none, none, some (.goto (-96), 117, 18, .null, 0), none, none, some (.return_, 118, 0, .null, 0)]])
def mX8_lies : iMeth := (yX8_lies, cX8_lies, 3, (some .boolean), 3, 0, [981, 82, 980, 0], [
  [some (.iload_n 0, 1, 0, .null, 0), some (.i2l, 2, 0, .null, 0), some (.lconst 0, 3, 0, .long 0, 0), some (.ldc2_w 142, 6, 0, .long 15, 904), none, none, some (.invokestatic 76, 9, 99, .null, 813), none, none, some (.ifCond .eq 27, 12, 36, .null, 0), none, none, some (.iload_n 0, 13, 0, .null, 0), some (.iload_n 2, 14, 0, .null, 0), some (.if_icmp .eq 18, 17, 32, .null, 0), none],
  [none, some (.iload_n 1, 18, 0, .null, 0), some (.ifCond .eq 18, 21, 36, .null, 0), none, none, some (.iload_n 0, 22, 0, .null, 0), some (.ifCond .le 14, 25, 36, .null, 0), none, none, some (.iload_n 0, 26, 0, .null, 0), some (.iconst 1, 27, 0, .int 1, 0), some (.isub, 28, 0, .null, 0), some (.iload_n 2, 29, 0, .null, 0), some (.if_icmp .ne 7, 32, 36, .null, 0), none, none],
  [some (.iconst 1, 33, 0, .int 1, 0), some (.goto 4, 36, 37, .null, 0), none, none, some (.iconst 0, 37, 0, .int 0, 0), some (.ireturn, 38, 0, .null, 0)]])
def mX8_whoBut : iMeth := (yX8_whoBut, cX8_whoBut, 5, (some .int), 2, 18, [978, 82, 977, 40], [
  [some (.iconst (-1), 1, 0, .int (-1), 0), some (.istore_n 3, 2, 0, .null, 0), some (.iconst 0, 3, 0, .int 0, 0), some (.istore 4, 5, 0, .null, 0), none, some (.iload 4, 7, 0, .null, 0), none, some (.aload_n 0, 8, 0, .null, 0), some (.getfield 123, 11, 521, .null, 732), none, none, some (.if_icmp .ge 56, 14, 67, .null, 0), none, none, some (.iload 4, 16, 0, .null, 0), none],
  [some (.iload_n 1, 17, 0, .null, 0), some (.if_icmp .eq 42, 20, 59, .null, 0), none, none, some (.aload_n 0, 21, 0, .null, 0), some (.getfield 43, 24, 527, .null, 738), none, none, some (.iload 4, 26, 0, .null, 0), none, some (.iaload, 27, 0, .null, 0), some (.aload_n 0, 28, 0, .null, 0), some (.getfield 34, 31, 522, .null, 733), none, none, some (.iconst 3, 32, 0, .int 3, 0)],
  [some (.iload 4, 34, 0, .null, 0), none, some (.imul, 35, 0, .null, 0), some (.iconst 2, 36, 0, .int 2, 0), some (.iadd, 37, 0, .null, 0), some (.iaload, 38, 0, .null, 0), some (.iconst 1, 39, 0, .int 1, 0), some (.if_icmp .ne 7, 42, 46, .null, 0), none, none, some (.iconst 1, 43, 0, .int 1, 0), some (.goto 4, 46, 47, .null, 0), none, none, some (.iconst 0, 47, 0, .int 0, 0), some (.iload_n 2, 48, 0, .null, 0)],
  [some (.invokestatic 179, 51, 139, .null, 979), none, none, some (.ifCond .eq 8, 54, 59, .null, 0), none, none, some (.iload 4, 56, 0, .null, 0), none, some (.goto 4, 59, 60, .null, 0), none, none, some (.iload_n 3, 60, 0, .null, 0), some (.istore_n 3, 61, 0, .null, 0), some (.iinc 4 1, 64, 0, .int 1, 0), none, none],
  [some (.goto (-59), 67, 5, .null, 0), none, none, some (.iload_n 3, 68, 0, .null, 0), some (.ireturn, 69, 0, .null, 0)]])
def mX8_floats : iMeth := (yX8_floats, cX8_floats, 6, none, 3, 18, [974, 82, 973, 39], [
  [some (.aload_n 0, 1, 0, .null, 0), some (.getfield 28, 4, 519, .null, 730), none, none, some (.aload_n 0, 5, 0, .null, 0), some (.getfield 43, 8, 527, .null, 738), none, none, some (.iload_n 2, 9, 0, .null, 0), some (.iaload, 10, 0, .null, 0), some (.iaload, 11, 0, .null, 0), some (.iload_n 3, 12, 0, .null, 0), some (.ifCond .eq 7, 15, 19, .null, 0), none, none, some (.iconst 1, 16, 0, .int 1, 0)],
  [some (.goto 4, 19, 20, .null, 0), none, none, some (.iconst 0, 20, 0, .int 0, 0), some (.iadd, 21, 0, .null, 0), some (.istore 4, 23, 0, .null, 0), none, some (.iconst 0, 24, 0, .int 0, 0), some (.istore 5, 26, 0, .null, 0), none, some (.iload 5, 28, 0, .null, 0), none, some (.iload 4, 30, 0, .null, 0), none, some (.if_icmp .ge 135, 33, 165, .null, 0), none],
  [none, some (.aload_n 0, 34, 0, .null, 0), some (.getfield 46, 37, 528, .null, 739), none, none, some (.iload_n 2, 38, 0, .null, 0), some (.iaload, 39, 0, .null, 0), some (.ifCond .ne 126, 42, 165, .null, 0), none, none, some (.aload_n 0, 43, 0, .null, 0), some (.getfield 43, 46, 527, .null, 738), none, none, some (.iload_n 2, 47, 0, .null, 0), some (.iaload, 48, 0, .null, 0)],
  [some (.bipush 16, 50, 0, .int 16, 0), none, some (.if_icmp .ge 115, 53, 165, .null, 0), none, none, some (.iload_n 3, 54, 0, .null, 0), some (.ifCond .ne 47, 57, 101, .null, 0), none, none, some (.aload_n 0, 58, 0, .null, 0), some (.getfield 40, 61, 526, .null, 737), none, none, some (.aload_n 0, 62, 0, .null, 0), some (.getfield 43, 65, 527, .null, 738), none],
  [none, some (.iload_n 2, 66, 0, .null, 0), some (.iaload, 67, 0, .null, 0), some (.iaload, 68, 0, .null, 0), some (.aload_n 0, 69, 0, .null, 0), some (.getfield 34, 72, 522, .null, 733), none, none, some (.iconst 3, 73, 0, .int 3, 0), some (.iload_n 2, 74, 0, .null, 0), some (.imul, 75, 0, .null, 0), some (.iconst 1, 76, 0, .int 1, 0), some (.iadd, 77, 0, .null, 0), some (.iaload, 78, 0, .null, 0), some (.if_icmp .ge 23, 81, 101, .null, 0), none],
  [none, some (.aload_n 0, 82, 0, .null, 0), some (.getfield 46, 85, 528, .null, 739), none, none, some (.iload_n 2, 86, 0, .null, 0), some (.iconst 1, 87, 0, .int 1, 0), some (.iastore, 88, 0, .null, 0), some (.aload_n 0, 89, 0, .null, 0), some (.getfield 52, 92, 530, .null, 741), none, none, some (.iload_n 2, 93, 0, .null, 0), some (.dup2, 94, 0, .null, 0), some (.iaload, 95, 0, .null, 0), some (.iconst 1, 96, 0, .int 1, 0)],
  [some (.iadd, 97, 0, .null, 0), some (.iastore, 98, 0, .null, 0), some (.goto 61, 101, 159, .null, 0), none, none, some (.aload_n 0, 102, 0, .null, 0), some (.getfield 43, 105, 527, .null, 738), none, none, some (.iload_n 2, 106, 0, .null, 0), some (.iaload, 107, 0, .null, 0), some (.bipush 15, 109, 0, .int 15, 0), none, some (.if_icmp .ge 40, 112, 149, .null, 0), none, none],
  [some (.aload_n 0, 113, 0, .null, 0), some (.iload_n 2, 114, 0, .null, 0), some (.aload_n 0, 115, 0, .null, 0), some (.getfield 43, 118, 527, .null, 738), none, none, some (.iload_n 2, 119, 0, .null, 0), some (.iaload, 120, 0, .null, 0), some (.iconst 1, 121, 0, .int 1, 0), some (.iadd, 122, 0, .null, 0), some (.invokevirtual 183, 125, 140, .null, 975), none, none, some (.iconst (-1), 126, 0, .int (-1), 0), some (.if_icmp .eq 23, 129, 149, .null, 0), none],
  [none, some (.aload_n 0, 130, 0, .null, 0), some (.getfield 46, 133, 528, .null, 739), none, none, some (.iload_n 2, 134, 0, .null, 0), some (.iconst 2, 135, 0, .int 2, 0), some (.iastore, 136, 0, .null, 0), some (.aload_n 0, 137, 0, .null, 0), some (.getfield 55, 140, 531, .null, 742), none, none, some (.iload_n 2, 141, 0, .null, 0), some (.dup2, 142, 0, .null, 0), some (.iaload, 143, 0, .null, 0), some (.iconst 1, 144, 0, .int 1, 0)],
  [some (.iadd, 145, 0, .null, 0), some (.iastore, 146, 0, .null, 0), some (.goto 13, 149, 159, .null, 0), none, none, some (.aload_n 0, 150, 0, .null, 0), some (.getfield 43, 153, 527, .null, 738), none, none, some (.iload_n 2, 154, 0, .null, 0), some (.dup2, 155, 0, .null, 0), some (.iaload, 156, 0, .null, 0), some (.iconst 1, 157, 0, .int 1, 0), some (.iadd, 158, 0, .null, 0), some (.iastore, 159, 0, .null, 0), some (.iinc 5 1, 162, 0, .int 1, 0)],
  [none, none, some (.goto (-136), 165, 26, .null, 0), none, none, some (.aload_n 0, 166, 0, .null, 0), some (.getfield 43, 169, 527, .null, 738), none, none, some (.iload_n 2, 170, 0, .null, 0), some (.iaload, 171, 0, .null, 0), some (.bipush 16, 173, 0, .int 16, 0), none, some (.if_icmp .ne 10, 176, 183, .null, 0), none, none],
  [some (.aload_n 0, 177, 0, .null, 0), some (.getfield 49, 180, 529, .null, 740), none, none, some (.iload_n 2, 181, 0, .null, 0), some (.iload_n 1, 182, 0, .null, 0), some (.iastore, 183, 0, .null, 0), some (.return_, 184, 0, .null, 0)]])
def mX8_logsGo : iMeth := (yX8_logsGo, cX8_logsGo, 6, none, 1, 18, [970, 82, 969, 38], [
  [some (.aload_n 0, 1, 0, .null, 0), some (.iconst 0, 2, 0, .int 0, 0), some (.iload_n 1, 3, 0, .null, 0), some (.invokevirtual 173, 6, 137, .null, 957), none, none, some (.istore_n 2, 7, 0, .null, 0), some (.iconst 0, 8, 0, .int 0, 0), some (.istore_n 3, 9, 0, .null, 0), some (.iconst 0, 10, 0, .int 0, 0), some (.istore 4, 12, 0, .null, 0), none, some (.iload 4, 14, 0, .null, 0), none, some (.aload_n 0, 15, 0, .null, 0), some (.getfield 123, 18, 521, .null, 732)],
  [none, none, some (.if_icmp .ge 17, 21, 35, .null, 0), none, none, some (.aload_n 0, 22, 0, .null, 0), some (.getfield 46, 25, 528, .null, 739), none, none, some (.iload 4, 27, 0, .null, 0), none, some (.iconst 0, 28, 0, .int 0, 0), some (.iastore, 29, 0, .null, 0), some (.iinc 4 1, 32, 0, .int 1, 0), none, none],
  [some (.goto (-20), 35, 12, .null, 0), none, none, some (.bipush 15, 37, 0, .int 15, 0), none, some (.istore 4, 39, 0, .null, 0), none, some (.iload 4, 41, 0, .null, 0), none, some (.ifCond .lt 68, 44, 109, .null, 0), none, none, some (.iconst 0, 45, 0, .int 0, 0), some (.istore 5, 47, 0, .null, 0), none, some (.iload 5, 49, 0, .null, 0)],
  [none, some (.aload_n 0, 50, 0, .null, 0), some (.getfield 123, 53, 521, .null, 732), none, none, some (.if_icmp .ge 50, 56, 103, .null, 0), none, none, some (.aload_n 0, 57, 0, .null, 0), some (.getfield 43, 60, 527, .null, 738), none, none, some (.iload 5, 62, 0, .null, 0), none, some (.iaload, 63, 0, .null, 0), some (.iload 4, 65, 0, .null, 0)],
  [none, some (.if_icmp .ne 32, 68, 97, .null, 0), none, none, some (.iload_n 3, 69, 0, .null, 0), some (.iload 5, 71, 0, .null, 0), none, some (.invokestatic 169, 74, 102, .null, 961), none, none, some (.ifCond .ne 23, 77, 97, .null, 0), none, none, some (.iload_n 3, 78, 0, .null, 0), some (.iconst 1, 79, 0, .int 1, 0), some (.iload 5, 81, 0, .null, 0)],
  [none, some (.ishl, 82, 0, .null, 0), some (.ior, 83, 0, .null, 0), some (.istore_n 3, 84, 0, .null, 0), some (.aload_n 0, 85, 0, .null, 0), some (.iload_n 1, 86, 0, .null, 0), some (.iload 5, 88, 0, .null, 0), none, some (.iload_n 2, 89, 0, .null, 0), some (.iload 5, 91, 0, .null, 0), none, some (.invokestatic 169, 94, 102, .null, 961), none, none, some (.invokevirtual 186, 97, 141, .null, 971), none],
  [none, some (.iinc 5 1, 100, 0, .int 1, 0), none, none, some (.goto (-53), 103, 47, .null, 0), none, none, some (.iinc 4 (-1), 106, 0, .int (-1), 0), none, none, some (.goto (-67), 109, 39, .null, 0), none, none, some (.iconst 0, 110, 0, .int 0, 0), some (.istore 4, 112, 0, .null, 0), none],
  [some (.iload 4, 114, 0, .null, 0), none, some (.aload_n 0, 115, 0, .null, 0), some (.getfield 123, 118, 521, .null, 732), none, none, some (.if_icmp .ge 52, 121, 170, .null, 0), none, none, some (.aload_n 0, 122, 0, .null, 0), some (.getfield 43, 125, 527, .null, 738), none, none, some (.iload 4, 127, 0, .null, 0), none, some (.iaload, 128, 0, .null, 0)],
  [some (.iconst (-1), 129, 0, .int (-1), 0), some (.if_icmp .ne 35, 132, 164, .null, 0), none, none, some (.iload_n 1, 133, 0, .null, 0), some (.aload_n 0, 134, 0, .null, 0), some (.getfield 34, 137, 522, .null, 733), none, none, some (.iconst 3, 138, 0, .int 3, 0), some (.iload 4, 140, 0, .null, 0), none, some (.imul, 141, 0, .null, 0), some (.iaload, 142, 0, .null, 0), some (.if_icmp .lt 22, 145, 164, .null, 0), none],
  [none, some (.aload_n 0, 146, 0, .null, 0), some (.iload 4, 148, 0, .null, 0), none, some (.iconst 0, 149, 0, .int 0, 0), some (.invokevirtual 183, 152, 140, .null, 975), none, none, some (.iconst (-1), 153, 0, .int (-1), 0), some (.if_icmp .ne 11, 156, 164, .null, 0), none, none, some (.aload_n 0, 157, 0, .null, 0), some (.getfield 43, 160, 527, .null, 738), none, none],
  [some (.iload 4, 162, 0, .null, 0), none, some (.iconst 0, 163, 0, .int 0, 0), some (.iastore, 164, 0, .null, 0), some (.iinc 4 1, 167, 0, .int 1, 0), none, none, some (.goto (-55), 170, 112, .null, 0), none, none, some (.return_, 171, 0, .null, 0)]])
def mX8_passes : iMeth := (yX8_passes, cX8_passes, 3, none, 1, 18, [952, 82, 951, 35], [
  [some (.aload_n 0, 1, 0, .null, 0), some (.iload_n 1, 2, 0, .null, 0), some (.invokevirtual 190, 5, 138, .null, 953), none, none, some (.aload_n 0, 6, 0, .null, 0), some (.iload_n 1, 7, 0, .null, 0), some (.invokevirtual 194, 10, 142, .null, 967), none, none, some (.iconst 0, 11, 0, .int 0, 0), some (.istore_n 2, 12, 0, .null, 0), some (.iload_n 2, 13, 0, .null, 0), some (.bipush 16, 15, 0, .int 16, 0), none, some (.if_icmp .ge 26, 18, 41, .null, 0)],
  [none, none, some (.aload_n 0, 19, 0, .null, 0), some (.getfield 58, 22, 532, .null, 743), none, none, some (.bipush 16, 24, 0, .int 16, 0), none, some (.iload_n 1, 25, 0, .null, 0), some (.imul, 26, 0, .null, 0), some (.iload_n 2, 27, 0, .null, 0), some (.iadd, 28, 0, .null, 0), some (.aload_n 0, 29, 0, .null, 0), some (.getfield 40, 32, 526, .null, 737), none, none],
  [some (.iload_n 2, 33, 0, .null, 0), some (.iaload, 34, 0, .null, 0), some (.iastore, 35, 0, .null, 0), some (.iinc 2 1, 38, 0, .int 1, 0), none, none, some (.goto (-26), 41, 12, .null, 0), none, none, some (.iconst 0, 42, 0, .int 0, 0), some (.istore_n 2, 43, 0, .null, 0), some (.iload_n 2, 44, 0, .null, 0), some (.aload_n 0, 45, 0, .null, 0), some (.getfield 123, 48, 521, .null, 732), none, none],
  [some (.if_icmp .ge 43, 51, 91, .null, 0), none, none, some (.aload_n 0, 52, 0, .null, 0), some (.getfield 61, 55, 533, .null, 744), none, none, some (.bipush 8, 57, 0, .int 8, 0), none, some (.iload_n 1, 58, 0, .null, 0), some (.imul, 59, 0, .null, 0), some (.iload_n 2, 60, 0, .null, 0), some (.iadd, 61, 0, .null, 0), some (.aload_n 0, 62, 0, .null, 0), some (.getfield 43, 65, 527, .null, 738), none],
  [none, some (.iload_n 2, 66, 0, .null, 0), some (.iaload, 67, 0, .null, 0), some (.iastore, 68, 0, .null, 0), some (.aload_n 0, 69, 0, .null, 0), some (.getfield 64, 72, 534, .null, 745), none, none, some (.bipush 8, 74, 0, .int 8, 0), none, some (.iload_n 1, 75, 0, .null, 0), some (.imul, 76, 0, .null, 0), some (.iload_n 2, 77, 0, .null, 0), some (.iadd, 78, 0, .null, 0), some (.aload_n 0, 79, 0, .null, 0), some (.getfield 46, 82, 528, .null, 739)],
  [none, none, some (.iload_n 2, 83, 0, .null, 0), some (.iaload, 84, 0, .null, 0), some (.iastore, 85, 0, .null, 0), some (.iinc 2 1, 88, 0, .int 1, 0), none, none, some (.goto (-45), 91, 43, .null, 0), none, none, some (.return_, 92, 0, .null, 0)]])
def mX8_lives : iMeth := (yX8_lives, cX8_lives, 2, none, 0, 18, [948, 82, 947, 34], [
  [some (.iconst 0, 1, 0, .int 0, 0), some (.istore_n 1, 2, 0, .null, 0), some (.iload_n 1, 3, 0, .null, 0), some (.bipush 16, 5, 0, .int 16, 0), none, some (.if_icmp .ge 16, 8, 21, .null, 0), none, none, some (.aload_n 0, 9, 0, .null, 0), some (.getfield 40, 12, 526, .null, 737), none, none, some (.iload_n 1, 13, 0, .null, 0), some (.iconst 0, 14, 0, .int 0, 0), some (.iastore, 15, 0, .null, 0), some (.iinc 1 1, 18, 0, .int 1, 0)],
  [none, none, some (.goto (-16), 21, 2, .null, 0), none, none, some (.iconst 0, 22, 0, .int 0, 0), some (.istore_n 1, 23, 0, .null, 0), some (.iload_n 1, 24, 0, .null, 0), some (.bipush 8, 26, 0, .int 8, 0), none, some (.if_icmp .ge 37, 29, 63, .null, 0), none, none, some (.aload_n 0, 30, 0, .null, 0), some (.getfield 43, 33, 527, .null, 738), none],
  [none, some (.iload_n 1, 34, 0, .null, 0), some (.iconst (-1), 35, 0, .int (-1), 0), some (.iastore, 36, 0, .null, 0), some (.aload_n 0, 37, 0, .null, 0), some (.getfield 49, 40, 529, .null, 740), none, none, some (.iload_n 1, 41, 0, .null, 0), some (.iconst (-1), 42, 0, .int (-1), 0), some (.iastore, 43, 0, .null, 0), some (.aload_n 0, 44, 0, .null, 0), some (.getfield 52, 47, 530, .null, 741), none, none, some (.iload_n 1, 48, 0, .null, 0)],
  [some (.iconst 0, 49, 0, .int 0, 0), some (.iastore, 50, 0, .null, 0), some (.aload_n 0, 51, 0, .null, 0), some (.getfield 55, 54, 531, .null, 742), none, none, some (.iload_n 1, 55, 0, .null, 0), some (.iconst 0, 56, 0, .int 0, 0), some (.iastore, 57, 0, .null, 0), some (.iinc 1 1, 60, 0, .int 1, 0), none, none, some (.goto (-37), 63, 23, .null, 0), none, none, some (.iconst 0, 64, 0, .int 0, 0)],
  [some (.istore_n 1, 65, 0, .null, 0), some (.iload_n 1, 66, 0, .null, 0), some (.bipush 24, 68, 0, .int 24, 0), none, some (.if_icmp .ge 14, 71, 82, .null, 0), none, none, some (.aload_n 0, 72, 0, .null, 0), some (.iload_n 1, 73, 0, .null, 0), some (.invokevirtual 197, 76, 143, .null, 949), none, none, some (.iinc 1 1, 79, 0, .int 1, 0), none, none, some (.goto (-14), 82, 65, .null, 0)],
  [none, none, some (.return_, 83, 0, .null, 0)]])
def mX8_find : iMeth := (yX8_find, cX8_find, 1, none, 0, 18, [944, 82, 943, 33], [
  [some (.aload_n 0, 1, 0, .null, 0), some (.invokevirtual 129, 4, 121, .null, 869), none, none, some (.pop, 5, 0, .null, 0), some (.aload_n 0, 6, 0, .null, 0), some (.invokevirtual 133, 9, 123, .null, 880), none, none, some (.pop, 10, 0, .null, 0), some (.aload_n 0, 11, 0, .null, 0), some (.invokevirtual 136, 14, 125, .null, 888), none, none, some (.pop, 15, 0, .null, 0), some (.aload_n 0, 16, 0, .null, 0)],
  [some (.invokevirtual 200, 19, 144, .null, 945), none, none, some (.return_, 20, 0, .null, 0)]])
def mX8_whoBy : iMeth := (yX8_whoBy, cX8_whoBy, 5, (some .int), 2, 18, [989, 82, 988, 42], [
  [some (.iconst (-1), 1, 0, .int (-1), 0), some (.istore_n 3, 2, 0, .null, 0), some (.iconst 0, 3, 0, .int 0, 0), some (.istore 4, 5, 0, .null, 0), none, some (.iload 4, 7, 0, .null, 0), none, some (.aload_n 0, 8, 0, .null, 0), some (.getfield 123, 11, 521, .null, 732), none, none, some (.if_icmp .ge 55, 14, 66, .null, 0), none, none, some (.aload_n 0, 15, 0, .null, 0), some (.getfield 61, 18, 533, .null, 744)],
  [none, none, some (.bipush 8, 20, 0, .int 8, 0), none, some (.iload_n 1, 21, 0, .null, 0), some (.imul, 22, 0, .null, 0), some (.iload 4, 24, 0, .null, 0), none, some (.iadd, 25, 0, .null, 0), some (.iaload, 26, 0, .null, 0), some (.aload_n 0, 27, 0, .null, 0), some (.getfield 34, 30, 522, .null, 733), none, none, some (.iconst 3, 31, 0, .int 3, 0), some (.iload 4, 33, 0, .null, 0)],
  [none, some (.imul, 34, 0, .null, 0), some (.iconst 2, 35, 0, .int 2, 0), some (.iadd, 36, 0, .null, 0), some (.iaload, 37, 0, .null, 0), some (.iconst 1, 38, 0, .int 1, 0), some (.if_icmp .ne 7, 41, 45, .null, 0), none, none, some (.iconst 1, 42, 0, .int 1, 0), some (.goto 4, 45, 46, .null, 0), none, none, some (.iconst 0, 46, 0, .int 0, 0), some (.iload_n 2, 47, 0, .null, 0), some (.invokestatic 179, 50, 139, .null, 979)],
  [none, none, some (.ifCond .eq 8, 53, 58, .null, 0), none, none, some (.iload 4, 55, 0, .null, 0), none, some (.goto 4, 58, 59, .null, 0), none, none, some (.iload_n 3, 59, 0, .null, 0), some (.istore_n 3, 60, 0, .null, 0), some (.iinc 4 1, 63, 0, .int 1, 0), none, none, some (.goto (-58), 66, 5, .null, 0)],
  [none, none, some (.iload_n 3, 67, 0, .null, 0), some (.ireturn, 68, 0, .null, 0)]])
def mX8_flumeBy : iMeth := (yX8_flumeBy, cX8_flumeBy, 4, (some .int), 3, 18, [985, 82, 984, 41], [
  [some (.iload_n 3, 1, 0, .null, 0), some (.ifCond .ne 17, 4, 18, .null, 0), none, none, some (.aload_n 0, 5, 0, .null, 0), some (.getfield 58, 8, 532, .null, 743), none, none, some (.bipush 16, 10, 0, .int 16, 0), none, some (.iload_n 1, 11, 0, .null, 0), some (.imul, 12, 0, .null, 0), some (.iload_n 2, 13, 0, .null, 0), some (.iadd, 14, 0, .null, 0), some (.iaload, 15, 0, .null, 0), some (.goto 9, 18, 24, .null, 0)],
  [none, none, some (.aload_n 0, 19, 0, .null, 0), some (.iload_n 1, 20, 0, .null, 0), some (.iload_n 2, 21, 0, .null, 0), some (.invokevirtual 203, 24, 146, .null, 986), none, none, some (.ireturn, 25, 0, .null, 0)]])
def mX8_flume : iMeth := (yX8_flume, cX8_flume, 4, (some .int), 3, 18, [940, 82, 938, 939], [
  [some (.aload_n 0, 1, 0, .null, 0), some (.invokevirtual 206, 4, 145, .null, 941), none, none, some (.iload_n 1, 5, 0, .null, 0), some (.invokestatic 158, 8, 129, .null, 924), none, none, some (.ifCond .eq 27, 11, 35, .null, 0), none, none, some (.iload_n 2, 12, 0, .null, 0), some (.invokestatic 146, 15, 128, .null, 901), none, none, some (.ifCond .eq 20, 18, 35, .null, 0)],
  [none, none, some (.iload_n 3, 19, 0, .null, 0), some (.invokestatic 149, 22, 101, .null, 905), none, none, some (.ifCond .eq 13, 25, 35, .null, 0), none, none, some (.aload_n 0, 26, 0, .null, 0), some (.iload_n 1, 27, 0, .null, 0), some (.iload_n 2, 28, 0, .null, 0), some (.iload_n 3, 29, 0, .null, 0), some (.invokevirtual 209, 32, 147, .null, 982), none, none],
  [some (.goto 5, 35, 37, .null, 0), none, none, some (.bipush (-2), 37, 0, .int (-2), 0), none, some (.ireturn, 38, 0, .null, 0)]])
def mX8_atBy : iMeth := (yX8_atBy, cX8_atBy, 4, (some .int), 3, 18, [997, 82, 996, 43], [
  [some (.iload_n 3, 1, 0, .null, 0), some (.ifCond .ne 17, 4, 18, .null, 0), none, none, some (.aload_n 0, 5, 0, .null, 0), some (.getfield 61, 8, 533, .null, 744), none, none, some (.bipush 8, 10, 0, .int 8, 0), none, some (.iload_n 1, 11, 0, .null, 0), some (.imul, 12, 0, .null, 0), some (.iload_n 2, 13, 0, .null, 0), some (.iadd, 14, 0, .null, 0), some (.iaload, 15, 0, .null, 0), some (.goto 14, 18, 29, .null, 0)],
  [none, none, some (.aload_n 0, 19, 0, .null, 0), some (.getfield 64, 22, 534, .null, 745), none, none, some (.bipush 8, 24, 0, .int 8, 0), none, some (.iload_n 1, 25, 0, .null, 0), some (.imul, 26, 0, .null, 0), some (.iload_n 2, 27, 0, .null, 0), some (.iadd, 28, 0, .null, 0), some (.iaload, 29, 0, .null, 0), some (.ireturn, 30, 0, .null, 0)]])
def mX8_at : iMeth := (yX8_at, cX8_at, 4, (some .int), 3, 18, [993, 82, 991, 992], [
  [some (.aload_n 0, 1, 0, .null, 0), some (.invokevirtual 206, 4, 145, .null, 941), none, none, some (.iload_n 1, 5, 0, .null, 0), some (.invokestatic 158, 8, 129, .null, 924), none, none, some (.ifCond .eq 28, 11, 36, .null, 0), none, none, some (.aload_n 0, 12, 0, .null, 0), some (.iload_n 2, 13, 0, .null, 0), some (.invokevirtual 155, 16, 130, .null, 916), none, none],
  [some (.ifCond .eq 20, 19, 36, .null, 0), none, none, some (.iload_n 3, 20, 0, .null, 0), some (.invokestatic 149, 23, 101, .null, 905), none, none, some (.ifCond .eq 13, 26, 36, .null, 0), none, none, some (.aload_n 0, 27, 0, .null, 0), some (.iload_n 1, 28, 0, .null, 0), some (.iload_n 2, 29, 0, .null, 0), some (.iload_n 3, 30, 0, .null, 0), some (.invokevirtual 212, 33, 149, .null, 994), none],
  [none, some (.goto 5, 36, 38, .null, 0), none, none, some (.bipush (-2), 38, 0, .int (-2), 0), none, some (.ireturn, 39, 0, .null, 0)]])
def mX8_allBy : iMeth := (yX8_allBy, cX8_allBy, 5, (some .int), 2, 18, [1005, 82, 1004, 44], [
  [some (.iconst 0, 1, 0, .int 0, 0), some (.istore_n 3, 2, 0, .null, 0), some (.iconst 0, 3, 0, .int 0, 0), some (.istore 4, 5, 0, .null, 0), none, some (.iload 4, 7, 0, .null, 0), none, some (.bipush 16, 9, 0, .int 16, 0), none, some (.if_icmp .ge 28, 12, 37, .null, 0), none, none, some (.iload_n 2, 13, 0, .null, 0), some (.ifCond .ne 24, 16, 37, .null, 0), none, none],
  [some (.iload_n 3, 17, 0, .null, 0), some (.aload_n 0, 18, 0, .null, 0), some (.getfield 58, 21, 532, .null, 743), none, none, some (.bipush 16, 23, 0, .int 16, 0), none, some (.iload_n 1, 24, 0, .null, 0), some (.imul, 25, 0, .null, 0), some (.iload 4, 27, 0, .null, 0), none, some (.iadd, 28, 0, .null, 0), some (.iaload, 29, 0, .null, 0), some (.iadd, 30, 0, .null, 0), some (.istore_n 3, 31, 0, .null, 0), some (.iinc 4 1, 34, 0, .int 1, 0)],
  [none, none, some (.goto (-29), 37, 5, .null, 0), none, none, some (.iconst 0, 38, 0, .int 0, 0), some (.istore 4, 40, 0, .null, 0), none, some (.iload 4, 42, 0, .null, 0), none, some (.aload_n 0, 43, 0, .null, 0), some (.getfield 123, 46, 521, .null, 732), none, none, some (.if_icmp .ge 45, 49, 91, .null, 0), none],
  [none, some (.iload_n 2, 50, 0, .null, 0), some (.iconst 1, 51, 0, .int 1, 0), some (.if_icmp .ne 40, 54, 91, .null, 0), none, none, some (.iload_n 3, 55, 0, .null, 0), some (.aload_n 0, 56, 0, .null, 0), some (.getfield 61, 59, 533, .null, 744), none, none, some (.bipush 8, 61, 0, .int 8, 0), none, some (.iload_n 1, 62, 0, .null, 0), some (.imul, 63, 0, .null, 0), some (.iload 4, 65, 0, .null, 0)],
  [none, some (.iadd, 66, 0, .null, 0), some (.iaload, 67, 0, .null, 0), some (.i2l, 68, 0, .null, 0), some (.lconst 0, 69, 0, .long 0, 0), some (.ldc2_w 142, 72, 0, .long 15, 904), none, none, some (.invokestatic 76, 75, 99, .null, 813), none, none, some (.ifCond .eq 7, 78, 82, .null, 0), none, none, some (.iconst 1, 79, 0, .int 1, 0), some (.goto 4, 82, 83, .null, 0)],
  [none, none, some (.iconst 0, 83, 0, .int 0, 0), some (.iadd, 84, 0, .null, 0), some (.istore_n 3, 85, 0, .null, 0), some (.iinc 4 1, 88, 0, .int 1, 0), none, none, some (.goto (-48), 91, 40, .null, 0), none, none, some (.iload_n 3, 92, 0, .null, 0), some (.ireturn, 93, 0, .null, 0)]])
def mX8_all : iMeth := (yX8_all, cX8_all, 3, (some .int), 2, 18, [1001, 82, 999, 1000], [
  [some (.aload_n 0, 1, 0, .null, 0), some (.invokevirtual 206, 4, 145, .null, 941), none, none, some (.iload_n 1, 5, 0, .null, 0), some (.invokestatic 158, 8, 129, .null, 924), none, none, some (.ifCond .eq 19, 11, 27, .null, 0), none, none, some (.iload_n 2, 12, 0, .null, 0), some (.invokestatic 149, 15, 101, .null, 905), none, none, some (.ifCond .eq 12, 18, 27, .null, 0)],
  [none, none, some (.aload_n 0, 19, 0, .null, 0), some (.iload_n 1, 20, 0, .null, 0), some (.iload_n 2, 21, 0, .null, 0), some (.invokevirtual 215, 24, 151, .null, 1002), none, none, some (.goto 5, 27, 29, .null, 0), none, none, some (.bipush (-2), 29, 0, .int (-2), 0), none, some (.ireturn, 30, 0, .null, 0)]])
def mX8_outBy : iMeth := (yX8_outBy, cX8_outBy, 3, (some .int), 2, 18, [1013, 82, 1012, 45], [
  [some (.iload_n 2, 1, 0, .null, 0), some (.ifCond .ne 12, 4, 13, .null, 0), none, none, some (.aload_n 0, 5, 0, .null, 0), some (.getfield 49, 8, 529, .null, 740), none, none, some (.iload_n 1, 9, 0, .null, 0), some (.iaload, 10, 0, .null, 0), some (.goto 23, 13, 33, .null, 0), none, none, some (.iload_n 2, 14, 0, .null, 0), some (.iconst 1, 15, 0, .int 1, 0), some (.if_icmp .ne 12, 18, 27, .null, 0)],
  [none, none, some (.aload_n 0, 19, 0, .null, 0), some (.getfield 52, 22, 530, .null, 741), none, none, some (.iload_n 1, 23, 0, .null, 0), some (.iaload, 24, 0, .null, 0), some (.goto 9, 27, 33, .null, 0), none, none, some (.aload_n 0, 28, 0, .null, 0), some (.getfield 55, 31, 531, .null, 742), none, none, some (.iload_n 1, 32, 0, .null, 0)],
  [some (.iaload, 33, 0, .null, 0), some (.ireturn, 34, 0, .null, 0)]])
def mX8_out : iMeth := (yX8_out, cX8_out, 3, (some .int), 2, 18, [1009, 82, 1007, 1008], [
  [some (.aload_n 0, 1, 0, .null, 0), some (.invokevirtual 206, 4, 145, .null, 941), none, none, some (.aload_n 0, 5, 0, .null, 0), some (.iload_n 1, 6, 0, .null, 0), some (.invokevirtual 155, 9, 130, .null, 916), none, none, some (.ifCond .eq 24, 12, 33, .null, 0), none, none, some (.iload_n 2, 13, 0, .null, 0), some (.i2l, 14, 0, .null, 0), some (.lconst 0, 15, 0, .long 0, 0), some (.ldc2_w 90, 18, 0, .long 2, 816)],
  [none, none, some (.invokestatic 76, 21, 99, .null, 813), none, none, some (.ifCond .eq 12, 24, 33, .null, 0), none, none, some (.aload_n 0, 25, 0, .null, 0), some (.iload_n 1, 26, 0, .null, 0), some (.iload_n 2, 27, 0, .null, 0), some (.invokevirtual 218, 30, 153, .null, 1010), none, none, some (.goto 5, 33, 35, .null, 0), none],
  [none, some (.bipush (-2), 35, 0, .int (-2), 0), none, some (.ireturn, 36, 0, .null, 0)]])
def mX8_jamNow : iMeth := (yX8_jamNow, cX8_jamNow, 4, (some .int), 0, 18, [1021, 82, 1020, 46], [
  [some (.iconst (-1), 1, 0, .int (-1), 0), some (.istore_n 1, 2, 0, .null, 0), some (.bipush 23, 4, 0, .int 23, 0), none, some (.istore_n 2, 5, 0, .null, 0), some (.iload_n 2, 6, 0, .null, 0), some (.ifCond .lt 46, 9, 52, .null, 0), none, none, some (.iconst 0, 10, 0, .int 0, 0), some (.istore_n 3, 11, 0, .null, 0), some (.iload_n 3, 12, 0, .null, 0), some (.aload_n 0, 13, 0, .null, 0), some (.getfield 123, 16, 521, .null, 732), none, none],
  [some (.if_icmp .ge 30, 19, 46, .null, 0), none, none, some (.aload_n 0, 20, 0, .null, 0), some (.getfield 64, 23, 534, .null, 745), none, none, some (.bipush 8, 25, 0, .int 8, 0), none, some (.iload_n 2, 26, 0, .null, 0), some (.imul, 27, 0, .null, 0), some (.iload_n 3, 28, 0, .null, 0), some (.iadd, 29, 0, .null, 0), some (.iaload, 30, 0, .null, 0), some (.iconst 2, 31, 0, .int 2, 0), some (.if_icmp .ne 7, 34, 38, .null, 0)],
  [none, none, some (.iload_n 2, 35, 0, .null, 0), some (.goto 4, 38, 39, .null, 0), none, none, some (.iload_n 1, 39, 0, .null, 0), some (.istore_n 1, 40, 0, .null, 0), some (.iinc 3 1, 43, 0, .int 1, 0), none, none, some (.goto (-32), 46, 11, .null, 0), none, none, some (.iinc 2 (-1), 49, 0, .int (-1), 0), none],
  [none, some (.goto (-44), 52, 5, .null, 0), none, none, some (.iload_n 1, 53, 0, .null, 0), some (.ireturn, 54, 0, .null, 0)]])
def mX8_jam : iMeth := (yX8_jam, cX8_jam, 1, (some .int), 0, 18, [1017, 82, 1015, 1016], [
  [some (.aload_n 0, 1, 0, .null, 0), some (.invokevirtual 206, 4, 145, .null, 941), none, none, some (.aload_n 0, 5, 0, .null, 0), some (.invokevirtual 221, 8, 155, .null, 1018), none, none, some (.ireturn, 9, 0, .null, 0)]])
def mX8_dryNow : iMeth := (yX8_dryNow, cX8_dryNow, 5, (some .int), 0, 18, [1033, 82, 1032, 48], [
  [some (.iconst 0, 1, 0, .int 0, 0), some (.istore_n 1, 2, 0, .null, 0), some (.iconst 0, 3, 0, .int 0, 0), some (.istore_n 2, 4, 0, .null, 0), some (.iload_n 2, 5, 0, .null, 0), some (.bipush 16, 7, 0, .int 16, 0), none, some (.if_icmp .ge 58, 10, 65, .null, 0), none, none, some (.iconst 0, 11, 0, .int 0, 0), some (.istore_n 3, 12, 0, .null, 0), some (.iconst 0, 13, 0, .int 0, 0), some (.istore 4, 15, 0, .null, 0), none, some (.iload 4, 17, 0, .null, 0)],
  [none, some (.bipush 24, 19, 0, .int 24, 0), none, some (.if_icmp .ge 26, 22, 45, .null, 0), none, none, some (.aload_n 0, 23, 0, .null, 0), some (.getfield 58, 26, 532, .null, 743), none, none, some (.bipush 16, 28, 0, .int 16, 0), none, some (.iload 4, 30, 0, .null, 0), none, some (.imul, 31, 0, .null, 0), some (.iload_n 2, 32, 0, .null, 0)],
  [some (.iadd, 33, 0, .null, 0), some (.iaload, 34, 0, .null, 0), some (.iload_n 3, 35, 0, .null, 0), some (.invokestatic 224, 38, 104, .null, 1034), none, none, some (.istore_n 3, 39, 0, .null, 0), some (.iinc 4 1, 42, 0, .int 1, 0), none, none, some (.goto (-27), 45, 15, .null, 0), none, none, some (.iload_n 1, 46, 0, .null, 0), some (.iload_n 3, 47, 0, .null, 0), some (.ifCond .ne 9, 50, 56, .null, 0)],
  [none, none, some (.iconst 1, 51, 0, .int 1, 0), some (.iload_n 2, 52, 0, .null, 0), some (.ishl, 53, 0, .null, 0), some (.goto 4, 56, 57, .null, 0), none, none, some (.iconst 0, 57, 0, .int 0, 0), some (.ior, 58, 0, .null, 0), some (.istore_n 1, 59, 0, .null, 0), some (.iinc 2 1, 62, 0, .int 1, 0), none, none, some (.goto (-58), 65, 4, .null, 0), none],
  [none, some (.iload_n 1, 66, 0, .null, 0), some (.ireturn, 67, 0, .null, 0)]])
def mX8_lateNow : iMeth := (yX8_lateNow, cX8_lateNow, 3, (some .int), 0, 18, [1040, 82, 1039, 49], [
  [some (.iconst 0, 1, 0, .int 0, 0), some (.istore_n 1, 2, 0, .null, 0), some (.iconst 0, 3, 0, .int 0, 0), some (.istore_n 2, 4, 0, .null, 0), some (.iload_n 2, 5, 0, .null, 0), some (.aload_n 0, 6, 0, .null, 0), some (.getfield 123, 9, 521, .null, 732), none, none, some (.if_icmp .ge 29, 12, 38, .null, 0), none, none, some (.iload_n 1, 13, 0, .null, 0), some (.aload_n 0, 14, 0, .null, 0), some (.getfield 49, 17, 529, .null, 740), none],
  [none, some (.iload_n 2, 18, 0, .null, 0), some (.iaload, 19, 0, .null, 0), some (.iconst (-1), 20, 0, .int (-1), 0), some (.if_icmp .ne 9, 23, 29, .null, 0), none, none, some (.iconst 1, 24, 0, .int 1, 0), some (.iload_n 2, 25, 0, .null, 0), some (.ishl, 26, 0, .null, 0), some (.goto 4, 29, 30, .null, 0), none, none, some (.iconst 0, 30, 0, .int 0, 0), some (.ior, 31, 0, .null, 0), some (.istore_n 1, 32, 0, .null, 0)],
  [some (.iinc 2 1, 35, 0, .int 1, 0), none, none, some (.goto (-31), 38, 4, .null, 0), none, none, some (.iload_n 1, 39, 0, .null, 0), some (.ireturn, 40, 0, .null, 0)]])
def mX8_leftBy : iMeth := (yX8_leftBy, cX8_leftBy, 2, (some .int), 1, 18, [1029, 82, 1028, 47], [
  [some (.iload_n 1, 1, 0, .null, 0), some (.ifCond .ne 10, 4, 11, .null, 0), none, none, some (.aload_n 0, 5, 0, .null, 0), some (.invokevirtual 227, 8, 157, .null, 1030), none, none, some (.goto 7, 11, 15, .null, 0), none, none, some (.aload_n 0, 12, 0, .null, 0), some (.invokevirtual 230, 15, 158, .null, 1037), none, none, some (.ireturn, 16, 0, .null, 0)]])
def mX8_left : iMeth := (yX8_left, cX8_left, 2, (some .int), 1, 18, [1025, 82, 1023, 1024], [
  [some (.aload_n 0, 1, 0, .null, 0), some (.invokevirtual 206, 4, 145, .null, 941), none, none, some (.iload_n 1, 5, 0, .null, 0), some (.invokestatic 149, 8, 101, .null, 905), none, none, some (.ifCond .eq 11, 11, 19, .null, 0), none, none, some (.aload_n 0, 12, 0, .null, 0), some (.iload_n 1, 13, 0, .null, 0), some (.invokevirtual 233, 16, 159, .null, 1026), none, none],
  [some (.goto 5, 19, 21, .null, 0), none, none, some (.bipush (-2), 21, 0, .int (-2), 0), none, some (.ireturn, 22, 0, .null, 0)]])
def mX8_worstNow : iMeth := (yX8_worstNow, cX8_worstNow, 4, (some .int), 0, 18, [1048, 82, 1047, 50], [
  [some (.iconst (-1), 1, 0, .int (-1), 0), some (.istore_n 1, 2, 0, .null, 0), some (.iconst 0, 3, 0, .int 0, 0), some (.istore_n 2, 4, 0, .null, 0), some (.iconst 0, 5, 0, .int 0, 0), some (.istore_n 3, 6, 0, .null, 0), some (.iload_n 3, 7, 0, .null, 0), some (.aload_n 0, 8, 0, .null, 0), some (.getfield 123, 11, 521, .null, 732), none, none, some (.if_icmp .ge 36, 14, 47, .null, 0), none, none, some (.aload_n 0, 15, 0, .null, 0), some (.getfield 52, 18, 530, .null, 741)],
  [none, none, some (.iload_n 3, 19, 0, .null, 0), some (.iaload, 20, 0, .null, 0), some (.iload_n 2, 21, 0, .null, 0), some (.if_icmp .le 7, 24, 28, .null, 0), none, none, some (.iload_n 3, 25, 0, .null, 0), some (.goto 4, 28, 29, .null, 0), none, none, some (.iload_n 1, 29, 0, .null, 0), some (.istore_n 1, 30, 0, .null, 0), some (.aload_n 0, 31, 0, .null, 0), some (.getfield 52, 34, 530, .null, 741)],
  [none, none, some (.iload_n 3, 35, 0, .null, 0), some (.iaload, 36, 0, .null, 0), some (.iload_n 2, 37, 0, .null, 0), some (.invokestatic 224, 40, 104, .null, 1034), none, none, some (.istore_n 2, 41, 0, .null, 0), some (.iinc 3 1, 44, 0, .int 1, 0), none, none, some (.goto (-38), 47, 6, .null, 0), none, none, some (.iload_n 1, 48, 0, .null, 0)],
  [some (.ireturn, 49, 0, .null, 0)]])
def mX8_worst : iMeth := (yX8_worst, cX8_worst, 1, (some .int), 0, 18, [1044, 82, 1042, 1043], [
  [some (.aload_n 0, 1, 0, .null, 0), some (.invokevirtual 206, 4, 145, .null, 941), none, none, some (.aload_n 0, 5, 0, .null, 0), some (.invokevirtual 236, 8, 161, .null, 1045), none, none, some (.ireturn, 9, 0, .null, 0)]])
def mX8_manyOut : iMeth := (yX8_manyOut, cX8_manyOut, 3, (some .int), 0, 18, [1060, 82, 1059, 52], [
  [some (.iconst 0, 1, 0, .int 0, 0), some (.istore_n 1, 2, 0, .null, 0), some (.iconst 0, 3, 0, .int 0, 0), some (.istore_n 2, 4, 0, .null, 0), some (.iload_n 2, 5, 0, .null, 0), some (.aload_n 0, 6, 0, .null, 0), some (.getfield 123, 9, 521, .null, 732), none, none, some (.if_icmp .ge 27, 12, 36, .null, 0), none, none, some (.iload_n 1, 13, 0, .null, 0), some (.aload_n 0, 14, 0, .null, 0), some (.getfield 49, 17, 529, .null, 740), none],
  [none, some (.iload_n 2, 18, 0, .null, 0), some (.iaload, 19, 0, .null, 0), some (.iconst (-1), 20, 0, .int (-1), 0), some (.if_icmp .eq 7, 23, 27, .null, 0), none, none, some (.iconst 1, 24, 0, .int 1, 0), some (.goto 4, 27, 28, .null, 0), none, none, some (.iconst 0, 28, 0, .int 0, 0), some (.iadd, 29, 0, .null, 0), some (.istore_n 1, 30, 0, .null, 0), some (.iinc 2 1, 33, 0, .int 1, 0), none],
  [none, some (.goto (-29), 36, 4, .null, 0), none, none, some (.iload_n 1, 37, 0, .null, 0), some (.ireturn, 38, 0, .null, 0)]])
def mX8_allLain : iMeth := (yX8_allLain, cX8_allLain, 3, (some .int), 0, 18, [1176, 82, 1175, 67], [
  [some (.iconst 0, 1, 0, .int 0, 0), some (.istore_n 1, 2, 0, .null, 0), some (.iconst 0, 3, 0, .int 0, 0), some (.istore_n 2, 4, 0, .null, 0), some (.iload_n 2, 5, 0, .null, 0), some (.aload_n 0, 6, 0, .null, 0), some (.getfield 123, 9, 521, .null, 732), none, none, some (.if_icmp .ge 18, 12, 27, .null, 0), none, none, some (.iload_n 1, 13, 0, .null, 0), some (.aload_n 0, 14, 0, .null, 0), some (.getfield 52, 17, 530, .null, 741), none],
  [none, some (.iload_n 2, 18, 0, .null, 0), some (.iaload, 19, 0, .null, 0), some (.iadd, 20, 0, .null, 0), some (.istore_n 1, 21, 0, .null, 0), some (.iinc 2 1, 24, 0, .int 1, 0), none, none, some (.goto (-20), 27, 4, .null, 0), none, none, some (.iload_n 1, 28, 0, .null, 0), some (.ireturn, 29, 0, .null, 0)]])
def mX8_allHalts : iMeth := (yX8_allHalts, cX8_allHalts, 3, (some .int), 0, 18, [1188, 82, 1187, 68], [
  [some (.iconst 0, 1, 0, .int 0, 0), some (.istore_n 1, 2, 0, .null, 0), some (.iconst 0, 3, 0, .int 0, 0), some (.istore_n 2, 4, 0, .null, 0), some (.iload_n 2, 5, 0, .null, 0), some (.aload_n 0, 6, 0, .null, 0), some (.getfield 123, 9, 521, .null, 732), none, none, some (.if_icmp .ge 18, 12, 27, .null, 0), none, none, some (.iload_n 1, 13, 0, .null, 0), some (.aload_n 0, 14, 0, .null, 0), some (.getfield 55, 17, 531, .null, 742), none],
  [none, some (.iload_n 2, 18, 0, .null, 0), some (.iaload, 19, 0, .null, 0), some (.iadd, 20, 0, .null, 0), some (.istore_n 1, 21, 0, .null, 0), some (.iinc 2 1, 24, 0, .int 1, 0), none, none, some (.goto (-20), 27, 4, .null, 0), none, none, some (.iload_n 1, 28, 0, .null, 0), some (.ireturn, 29, 0, .null, 0)]])
def mX8_sendOf : iMeth := (yX8_sendOf, cX8_sendOf, 8, (some .int), 2, 18, [1056, 82, 1055, 51], [
  [some (.aload_n 0, 1, 0, .null, 0), some (.getfield 34, 4, 522, .null, 733), none, none, some (.iconst 3, 5, 0, .int 3, 0), some (.iload_n 1, 6, 0, .null, 0), some (.imul, 7, 0, .null, 0), some (.iaload, 8, 0, .null, 0), some (.istore_n 3, 9, 0, .null, 0), some (.iconst (-1), 10, 0, .int (-1), 0), some (.istore 4, 12, 0, .null, 0), none, some (.iconst (-1), 13, 0, .int (-1), 0), some (.istore 5, 15, 0, .null, 0), none, some (.iconst 0, 16, 0, .int 0, 0)],
  [some (.istore 6, 18, 0, .null, 0), none, some (.iload 6, 20, 0, .null, 0), none, some (.bipush 24, 22, 0, .int 24, 0), none, some (.if_icmp .ge 54, 25, 76, .null, 0), none, none, some (.aload_n 0, 26, 0, .null, 0), some (.getfield 34, 29, 522, .null, 733), none, none, some (.iconst 3, 30, 0, .int 3, 0), some (.iload_n 1, 31, 0, .null, 0), some (.imul, 32, 0, .null, 0)],
  [some (.iload 6, 34, 0, .null, 0), none, some (.iastore, 35, 0, .null, 0), some (.aload_n 0, 36, 0, .null, 0), some (.invokevirtual 200, 39, 144, .null, 945), none, none, some (.aload_n 0, 40, 0, .null, 0), some (.invokevirtual 239, 43, 163, .null, 1057), none, none, some (.istore 7, 45, 0, .null, 0), none, some (.iload 7, 47, 0, .null, 0), none, some (.iload 5, 49, 0, .null, 0)],
  [none, some (.if_icmp .le 8, 52, 57, .null, 0), none, none, some (.iload 6, 54, 0, .null, 0), none, some (.goto 5, 57, 59, .null, 0), none, none, some (.iload 4, 59, 0, .null, 0), none, some (.istore 4, 61, 0, .null, 0), none, some (.iload 7, 63, 0, .null, 0), none, some (.iload 5, 65, 0, .null, 0)],
  [none, some (.invokestatic 224, 68, 104, .null, 1034), none, none, some (.istore 5, 70, 0, .null, 0), none, some (.iinc 6 1, 73, 0, .int 1, 0), none, none, some (.goto (-55), 76, 18, .null, 0), none, none, some (.aload_n 0, 77, 0, .null, 0), some (.getfield 34, 80, 522, .null, 733), none, none],
  [some (.iconst 3, 81, 0, .int 3, 0), some (.iload_n 1, 82, 0, .null, 0), some (.imul, 83, 0, .null, 0), some (.iload_n 3, 84, 0, .null, 0), some (.iastore, 85, 0, .null, 0), some (.iload_n 2, 86, 0, .null, 0), some (.ifCond .ne 8, 89, 94, .null, 0), none, none, some (.iload 4, 91, 0, .null, 0), none, some (.goto 5, 94, 96, .null, 0), none, none, some (.iload 5, 96, 0, .null, 0), none],
  [some (.ireturn, 97, 0, .null, 0)]])
def mX8_send : iMeth := (yX8_send, cX8_send, 3, (some .int), 2, 18, [1052, 82, 1050, 1051], [
  [some (.aload_n 0, 1, 0, .null, 0), some (.invokevirtual 206, 4, 145, .null, 941), none, none, some (.aload_n 0, 5, 0, .null, 0), some (.iload_n 1, 6, 0, .null, 0), some (.invokevirtual 155, 9, 130, .null, 916), none, none, some (.ifCond .eq 19, 12, 28, .null, 0), none, none, some (.iload_n 2, 13, 0, .null, 0), some (.invokestatic 149, 16, 101, .null, 905), none, none],
  [some (.ifCond .eq 12, 19, 28, .null, 0), none, none, some (.aload_n 0, 20, 0, .null, 0), some (.iload_n 1, 21, 0, .null, 0), some (.iload_n 2, 22, 0, .null, 0), some (.invokevirtual 242, 25, 166, .null, 1053), none, none, some (.goto 5, 28, 30, .null, 0), none, none, some (.bipush (-2), 30, 0, .int (-2), 0), none, some (.ireturn, 31, 0, .null, 0)]])
def mX8_steepBy : iMeth := (yX8_steepBy, cX8_steepBy, 7, (some .int), 1, 18, [1068, 82, 1067, 53], [
  [some (.iconst (-1), 1, 0, .int (-1), 0), some (.istore_n 2, 2, 0, .null, 0), some (.iconst (-1), 3, 0, .int (-1), 0), some (.istore_n 3, 4, 0, .null, 0), some (.iconst 0, 5, 0, .int 0, 0), some (.istore 4, 7, 0, .null, 0), none, some (.iload 4, 9, 0, .null, 0), none, some (.bipush 16, 11, 0, .int 16, 0), none, some (.if_icmp .ge 72, 14, 83, .null, 0), none, none, some (.aload_n 0, 15, 0, .null, 0), some (.getfield 28, 18, 519, .null, 730)],
  [none, none, some (.iload 4, 20, 0, .null, 0), none, some (.iaload, 21, 0, .null, 0), some (.istore 5, 23, 0, .null, 0), none, some (.aload_n 0, 24, 0, .null, 0), some (.getfield 28, 27, 519, .null, 730), none, none, some (.iload 4, 29, 0, .null, 0), none, some (.iload 5, 31, 0, .null, 0), none, some (.iconst 1, 32, 0, .int 1, 0)],
  [some (.iadd, 33, 0, .null, 0), some (.iconst 3, 34, 0, .int 3, 0), some (.invokestatic 176, 37, 103, .null, 964), none, none, some (.iastore, 38, 0, .null, 0), some (.aload_n 0, 39, 0, .null, 0), some (.invokevirtual 200, 42, 144, .null, 945), none, none, some (.aload_n 0, 43, 0, .null, 0), some (.invokevirtual 239, 46, 163, .null, 1057), none, none, some (.istore 6, 48, 0, .null, 0), none],
  [some (.iload 6, 50, 0, .null, 0), none, some (.iload_n 3, 51, 0, .null, 0), some (.if_icmp .le 8, 54, 59, .null, 0), none, none, some (.iload 4, 56, 0, .null, 0), none, some (.goto 4, 59, 60, .null, 0), none, none, some (.iload_n 2, 60, 0, .null, 0), some (.istore_n 2, 61, 0, .null, 0), some (.iload 6, 63, 0, .null, 0), none, some (.iload_n 3, 64, 0, .null, 0)],
  [some (.invokestatic 224, 67, 104, .null, 1034), none, none, some (.istore_n 3, 68, 0, .null, 0), some (.aload_n 0, 69, 0, .null, 0), some (.getfield 28, 72, 519, .null, 730), none, none, some (.iload 4, 74, 0, .null, 0), none, some (.iload 5, 76, 0, .null, 0), none, some (.iastore, 77, 0, .null, 0), some (.iinc 4 1, 80, 0, .int 1, 0), none, none],
  [some (.goto (-73), 83, 7, .null, 0), none, none, some (.iload_n 1, 84, 0, .null, 0), some (.ifCond .ne 7, 87, 91, .null, 0), none, none, some (.iload_n 2, 88, 0, .null, 0), some (.goto 4, 91, 92, .null, 0), none, none, some (.iload_n 3, 92, 0, .null, 0), some (.ireturn, 93, 0, .null, 0)]])
def mX8_steep : iMeth := (yX8_steep, cX8_steep, 2, (some .int), 1, 18, [1064, 82, 1062, 1063], [
  [some (.aload_n 0, 1, 0, .null, 0), some (.invokevirtual 206, 4, 145, .null, 941), none, none, some (.iload_n 1, 5, 0, .null, 0), some (.invokestatic 149, 8, 101, .null, 905), none, none, some (.ifCond .eq 11, 11, 19, .null, 0), none, none, some (.aload_n 0, 12, 0, .null, 0), some (.iload_n 1, 13, 0, .null, 0), some (.invokevirtual 245, 16, 168, .null, 1065), none, none],
  [some (.goto 5, 19, 21, .null, 0), none, none, some (.bipush (-2), 21, 0, .int (-2), 0), none, some (.ireturn, 22, 0, .null, 0)]])
def mX8_fillBy : iMeth := (yX8_fillBy, cX8_fillBy, 7, (some .int), 1, 18, [1076, 82, 1075, 54], [
  [some (.iconst (-1), 1, 0, .int (-1), 0), some (.istore_n 2, 2, 0, .null, 0), some (.iconst (-1), 3, 0, .int (-1), 0), some (.istore_n 3, 4, 0, .null, 0), some (.iconst 0, 5, 0, .int 0, 0), some (.istore 4, 7, 0, .null, 0), none, some (.iload 4, 9, 0, .null, 0), none, some (.bipush 16, 11, 0, .int 16, 0), none, some (.if_icmp .ge 73, 14, 84, .null, 0), none, none, some (.aload_n 0, 15, 0, .null, 0), some (.getfield 31, 18, 520, .null, 731)],
  [none, none, some (.iload 4, 20, 0, .null, 0), none, some (.iaload, 21, 0, .null, 0), some (.istore 5, 23, 0, .null, 0), none, some (.aload_n 0, 24, 0, .null, 0), some (.getfield 31, 27, 520, .null, 731), none, none, some (.iload 4, 29, 0, .null, 0), none, some (.iload 5, 31, 0, .null, 0), none, some (.iconst 2, 32, 0, .int 2, 0)],
  [some (.iadd, 33, 0, .null, 0), some (.bipush 9, 35, 0, .int 9, 0), none, some (.invokestatic 176, 38, 103, .null, 964), none, none, some (.iastore, 39, 0, .null, 0), some (.aload_n 0, 40, 0, .null, 0), some (.invokevirtual 200, 43, 144, .null, 945), none, none, some (.aload_n 0, 44, 0, .null, 0), some (.invokevirtual 239, 47, 163, .null, 1057), none, none, some (.istore 6, 49, 0, .null, 0)],
  [none, some (.iload 6, 51, 0, .null, 0), none, some (.iload_n 3, 52, 0, .null, 0), some (.if_icmp .le 8, 55, 60, .null, 0), none, none, some (.iload 4, 57, 0, .null, 0), none, some (.goto 4, 60, 61, .null, 0), none, none, some (.iload_n 2, 61, 0, .null, 0), some (.istore_n 2, 62, 0, .null, 0), some (.iload 6, 64, 0, .null, 0), none],
  [some (.iload_n 3, 65, 0, .null, 0), some (.invokestatic 224, 68, 104, .null, 1034), none, none, some (.istore_n 3, 69, 0, .null, 0), some (.aload_n 0, 70, 0, .null, 0), some (.getfield 31, 73, 520, .null, 731), none, none, some (.iload 4, 75, 0, .null, 0), none, some (.iload 5, 77, 0, .null, 0), none, some (.iastore, 78, 0, .null, 0), some (.iinc 4 1, 81, 0, .int 1, 0), none],
  [none, some (.goto (-74), 84, 7, .null, 0), none, none, some (.iload_n 1, 85, 0, .null, 0), some (.ifCond .ne 7, 88, 92, .null, 0), none, none, some (.iload_n 2, 89, 0, .null, 0), some (.goto 4, 92, 93, .null, 0), none, none, some (.iload_n 3, 93, 0, .null, 0), some (.ireturn, 94, 0, .null, 0)]])
def mX8_fill : iMeth := (yX8_fill, cX8_fill, 2, (some .int), 1, 18, [1072, 82, 1070, 1071], [
  [some (.aload_n 0, 1, 0, .null, 0), some (.invokevirtual 206, 4, 145, .null, 941), none, none, some (.iload_n 1, 5, 0, .null, 0), some (.invokestatic 149, 8, 101, .null, 905), none, none, some (.ifCond .eq 11, 11, 19, .null, 0), none, none, some (.aload_n 0, 12, 0, .null, 0), some (.iload_n 1, 13, 0, .null, 0), some (.invokevirtual 248, 16, 170, .null, 1073), none, none],
  [some (.goto 5, 19, 21, .null, 0), none, none, some (.bipush (-2), 21, 0, .int (-2), 0), none, some (.ireturn, 22, 0, .null, 0)]])
def mX8_isSpared : iMeth := (yX8_isSpared, cX8_isSpared, 2, (some .boolean), 1, 18, [1089, 82, 1088, 56], [
  [some (.aload_n 0, 1, 0, .null, 0), some (.iload_n 1, 2, 0, .null, 0), some (.putfield 166, 5, 525, .null, 736), none, none, some (.aload_n 0, 6, 0, .null, 0), some (.invokevirtual 200, 9, 144, .null, 945), none, none, some (.aload_n 0, 10, 0, .null, 0), some (.iconst 0, 11, 0, .int 0, 0), some (.putfield 166, 14, 525, .null, 736), none, none, some (.aload_n 0, 15, 0, .null, 0), some (.invokevirtual 230, 18, 158, .null, 1037)],
  [none, none, some (.ifCond .ne 7, 21, 25, .null, 0), none, none, some (.iconst 1, 22, 0, .int 1, 0), some (.goto 4, 25, 26, .null, 0), none, none, some (.iconst 0, 26, 0, .int 0, 0), some (.ireturn, 27, 0, .null, 0)]])
def mX8_spareBy : iMeth := (yX8_spareBy, cX8_spareBy, 4, (some .int), 1, 18, [1085, 82, 1084, 55], [
  [some (.aload_n 0, 1, 0, .null, 0), some (.iconst 0, 2, 0, .int 0, 0), some (.invokevirtual 251, 5, 172, .null, 1086), none, none, some (.ifCond .eq 14, 8, 19, .null, 0), none, none, some (.iload_n 1, 9, 0, .null, 0), some (.iconst (-1), 10, 0, .int (-1), 0), some (.if_icmp .ne 7, 13, 17, .null, 0), none, none, some (.iconst 0, 14, 0, .int 0, 0), some (.goto 4, 17, 18, .null, 0), none],
  [none, some (.iconst (-1), 18, 0, .int (-1), 0), some (.ireturn, 19, 0, .null, 0), some (.iconst 0, 20, 0, .int 0, 0), some (.istore_n 2, 21, 0, .null, 0), some (.iload_n 2, 22, 0, .null, 0), some (.aload_n 0, 23, 0, .null, 0), some (.getfield 161, 26, 523, .null, 734), none, none, some (.if_icmp .ge 38, 29, 64, .null, 0), none, none, some (.aload_n 0, 30, 0, .null, 0), some (.iconst 1, 31, 0, .int 1, 0), some (.iload_n 2, 32, 0, .null, 0)],
  [some (.ishl, 33, 0, .null, 0), some (.invokevirtual 251, 36, 172, .null, 1086), none, none, some (.ifCond .eq 22, 39, 58, .null, 0), none, none, some (.iload_n 1, 40, 0, .null, 0), some (.iconst (-1), 41, 0, .int (-1), 0), some (.if_icmp .ne 7, 44, 48, .null, 0), none, none, some (.iconst 1, 45, 0, .int 1, 0), some (.goto 12, 48, 57, .null, 0), none, none],
  [some (.iload_n 1, 49, 0, .null, 0), some (.ifCond .ne 7, 52, 56, .null, 0), none, none, some (.iload_n 2, 53, 0, .null, 0), some (.goto 4, 56, 57, .null, 0), none, none, some (.iconst (-1), 57, 0, .int (-1), 0), some (.ireturn, 58, 0, .null, 0), some (.iinc 2 1, 61, 0, .int 1, 0), none, none, some (.goto (-40), 64, 21, .null, 0), none, none],
  [some (.iconst 0, 65, 0, .int 0, 0), some (.istore_n 2, 66, 0, .null, 0), some (.iload_n 2, 67, 0, .null, 0), some (.aload_n 0, 68, 0, .null, 0), some (.getfield 161, 71, 523, .null, 734), none, none, some (.if_icmp .ge 60, 74, 131, .null, 0), none, none, some (.iload_n 2, 75, 0, .null, 0), some (.iconst 1, 76, 0, .int 1, 0), some (.iadd, 77, 0, .null, 0), some (.istore_n 3, 78, 0, .null, 0), some (.iload_n 3, 79, 0, .null, 0), some (.aload_n 0, 80, 0, .null, 0)],
  [some (.getfield 161, 83, 523, .null, 734), none, none, some (.if_icmp .ge 42, 86, 125, .null, 0), none, none, some (.aload_n 0, 87, 0, .null, 0), some (.iconst 1, 88, 0, .int 1, 0), some (.iload_n 2, 89, 0, .null, 0), some (.ishl, 90, 0, .null, 0), some (.iconst 1, 91, 0, .int 1, 0), some (.iload_n 3, 92, 0, .null, 0), some (.ishl, 93, 0, .null, 0), some (.ior, 94, 0, .null, 0), some (.invokevirtual 251, 97, 172, .null, 1086), none],
  [none, some (.ifCond .eq 22, 100, 119, .null, 0), none, none, some (.iload_n 1, 101, 0, .null, 0), some (.iconst (-1), 102, 0, .int (-1), 0), some (.if_icmp .ne 7, 105, 109, .null, 0), none, none, some (.iconst 2, 106, 0, .int 2, 0), some (.goto 12, 109, 118, .null, 0), none, none, some (.iload_n 1, 110, 0, .null, 0), some (.ifCond .ne 7, 113, 117, .null, 0), none],
  [none, some (.iload_n 2, 114, 0, .null, 0), some (.goto 4, 117, 118, .null, 0), none, none, some (.iload_n 3, 118, 0, .null, 0), some (.ireturn, 119, 0, .null, 0), some (.iinc 3 1, 122, 0, .int 1, 0), none, none, some (.goto (-44), 125, 78, .null, 0), none, none, some (.iinc 2 1, 128, 0, .int 1, 0), none, none],
  [some (.goto (-62), 131, 66, .null, 0), none, none, some (.iconst (-1), 132, 0, .int (-1), 0), some (.ireturn, 133, 0, .null, 0)]])
def mX8_spare : iMeth := (yX8_spare, cX8_spare, 2, (some .int), 1, 18, [1080, 82, 1078, 1079], [
  [some (.aload_n 0, 1, 0, .null, 0), some (.invokevirtual 206, 4, 145, .null, 941), none, none, some (.iload_n 1, 5, 0, .null, 0), some (.i2l, 6, 0, .null, 0), some (.ldc2_w 254, 9, 0, .long (-1), 1081), none, none, some (.lconst 1, 10, 0, .long 1, 0), some (.invokestatic 76, 13, 99, .null, 813), none, none, some (.ifCond .eq 11, 16, 24, .null, 0), none, none],
  [some (.aload_n 0, 17, 0, .null, 0), some (.iload_n 1, 18, 0, .null, 0), some (.invokevirtual 256, 21, 173, .null, 1082), none, none, some (.goto 5, 24, 26, .null, 0), none, none, some (.bipush (-2), 26, 0, .int (-2), 0), none, some (.ireturn, 27, 0, .null, 0)]])
def mX8_seen : iMeth := (yX8_seen, cX8_seen, 4, (some .int), 3, 18, [1093, 82, 1091, 1092], [
  [some (.iload_n 1, 1, 0, .null, 0), some (.invokestatic 158, 4, 129, .null, 924), none, none, some (.ifCond .eq 22, 7, 26, .null, 0), none, none, some (.iload_n 2, 8, 0, .null, 0), some (.invokestatic 146, 11, 128, .null, 901), none, none, some (.ifCond .eq 15, 14, 26, .null, 0), none, none, some (.iload_n 3, 15, 0, .null, 0), some (.i2l, 16, 0, .null, 0)],
  [some (.lconst 0, 17, 0, .long 0, 0), some (.ldc2_w 259, 20, 0, .long 8, 1094), none, none, some (.invokestatic 76, 23, 99, .null, 813), none, none, some (.ifCond .ne 6, 26, 29, .null, 0), none, none, some (.bipush (-2), 28, 0, .int (-2), 0), none, some (.ireturn, 29, 0, .null, 0), some (.aload_n 0, 30, 0, .null, 0), some (.getfield 261, 33, 535, .null, 746), none],
  [none, some (.bipush 8, 35, 0, .int 8, 0), none, some (.if_icmp .ne 6, 38, 41, .null, 0), none, none, some (.bipush (-4), 40, 0, .int (-4), 0), none, some (.ireturn, 41, 0, .null, 0), some (.aload_n 0, 42, 0, .null, 0), some (.getfield 67, 45, 536, .null, 747), none, none, some (.iconst 3, 46, 0, .int 3, 0), some (.aload_n 0, 47, 0, .null, 0), some (.getfield 261, 50, 535, .null, 746)],
  [none, none, some (.imul, 51, 0, .null, 0), some (.iload_n 1, 52, 0, .null, 0), some (.iastore, 53, 0, .null, 0), some (.aload_n 0, 54, 0, .null, 0), some (.getfield 67, 57, 536, .null, 747), none, none, some (.iconst 3, 58, 0, .int 3, 0), some (.aload_n 0, 59, 0, .null, 0), some (.getfield 261, 62, 535, .null, 746), none, none, some (.imul, 63, 0, .null, 0), some (.iconst 1, 64, 0, .int 1, 0)],
  [some (.iadd, 65, 0, .null, 0), some (.iload_n 2, 66, 0, .null, 0), some (.iastore, 67, 0, .null, 0), some (.aload_n 0, 68, 0, .null, 0), some (.getfield 67, 71, 536, .null, 747), none, none, some (.iconst 3, 72, 0, .int 3, 0), some (.aload_n 0, 73, 0, .null, 0), some (.getfield 261, 76, 535, .null, 746), none, none, some (.imul, 77, 0, .null, 0), some (.iconst 2, 78, 0, .int 2, 0), some (.iadd, 79, 0, .null, 0), some (.iload_n 3, 80, 0, .null, 0)],
  [some (.iastore, 81, 0, .null, 0), some (.aload_n 0, 82, 0, .null, 0), some (.dup, 83, 0, .null, 0), some (.getfield 261, 86, 535, .null, 746), none, none, some (.iconst 1, 87, 0, .int 1, 0), some (.iadd, 88, 0, .null, 0), some (.putfield 261, 91, 535, .null, 746), none, none, some (.aload_n 0, 92, 0, .null, 0), some (.getfield 261, 95, 535, .null, 746), none, none, some (.ireturn, 96, 0, .null, 0)]])
def mX8_forget : iMeth := (yX8_forget, cX8_forget, 2, (some .int), 0, 18, [1098, 82, 1096, 1097], [
  [some (.aload_n 0, 1, 0, .null, 0), some (.getfield 261, 4, 535, .null, 746), none, none, some (.istore_n 1, 5, 0, .null, 0), some (.aload_n 0, 6, 0, .null, 0), some (.iconst 0, 7, 0, .int 0, 0), some (.putfield 261, 10, 535, .null, 746), none, none, some (.iload_n 1, 11, 0, .null, 0), some (.ireturn, 12, 0, .null, 0)]])
def mX8_isSeen : iMeth := (yX8_isSeen, cX8_isSeen, 4, (some .boolean), 0, 18, [1110, 82, 1109, 58], [
  [some (.aload_n 0, 1, 0, .null, 0), some (.invokevirtual 200, 4, 144, .null, 945), none, none, some (.iconst 1, 5, 0, .int 1, 0), some (.istore_n 1, 6, 0, .null, 0), some (.iconst 0, 7, 0, .int 0, 0), some (.istore_n 2, 8, 0, .null, 0), some (.iload_n 2, 9, 0, .null, 0), some (.aload_n 0, 10, 0, .null, 0), some (.getfield 261, 13, 535, .null, 746), none, none, some (.if_icmp .ge 66, 16, 79, .null, 0), none, none],
  [some (.aload_n 0, 17, 0, .null, 0), some (.getfield 67, 20, 536, .null, 747), none, none, some (.iconst 3, 21, 0, .int 3, 0), some (.iload_n 2, 22, 0, .null, 0), some (.imul, 23, 0, .null, 0), some (.iconst 2, 24, 0, .int 2, 0), some (.iadd, 25, 0, .null, 0), some (.iaload, 26, 0, .null, 0), some (.istore_n 3, 27, 0, .null, 0), some (.iload_n 1, 28, 0, .null, 0), some (.ifCond .eq 43, 31, 71, .null, 0), none, none, some (.aload_n 0, 32, 0, .null, 0)],
  [some (.aload_n 0, 33, 0, .null, 0), some (.getfield 67, 36, 536, .null, 747), none, none, some (.iconst 3, 37, 0, .int 3, 0), some (.iload_n 2, 38, 0, .null, 0), some (.imul, 39, 0, .null, 0), some (.iaload, 40, 0, .null, 0), some (.aload_n 0, 41, 0, .null, 0), some (.getfield 67, 44, 536, .null, 747), none, none, some (.iconst 3, 45, 0, .int 3, 0), some (.iload_n 2, 46, 0, .null, 0), some (.imul, 47, 0, .null, 0), some (.iconst 1, 48, 0, .int 1, 0)],
  [some (.iadd, 49, 0, .null, 0), some (.iaload, 50, 0, .null, 0), some (.invokevirtual 203, 53, 146, .null, 986), none, none, some (.iload_n 3, 54, 0, .null, 0), some (.bipush 8, 56, 0, .int 8, 0), none, some (.if_icmp .ne 7, 59, 63, .null, 0), none, none, some (.iconst (-1), 60, 0, .int (-1), 0), some (.goto 4, 63, 64, .null, 0), none, none, some (.iload_n 3, 64, 0, .null, 0)],
  [some (.if_icmp .ne 7, 67, 71, .null, 0), none, none, some (.iconst 1, 68, 0, .int 1, 0), some (.goto 4, 71, 72, .null, 0), none, none, some (.iconst 0, 72, 0, .int 0, 0), some (.istore_n 1, 73, 0, .null, 0), some (.iinc 2 1, 76, 0, .int 1, 0), none, none, some (.goto (-68), 79, 8, .null, 0), none, none, some (.iload_n 1, 80, 0, .null, 0)],
  [some (.ireturn, 81, 0, .null, 0)]])
def mX8_neverNow : iMeth := (yX8_neverNow, cX8_neverNow, 3, (some .int), 0, 18, [1106, 82, 1105, 57], [
  [some (.iconst 0, 1, 0, .int 0, 0), some (.istore_n 1, 2, 0, .null, 0), some (.iconst 0, 3, 0, .int 0, 0), some (.istore_n 2, 4, 0, .null, 0), some (.iload_n 2, 5, 0, .null, 0), some (.aload_n 0, 6, 0, .null, 0), some (.getfield 161, 9, 523, .null, 734), none, none, some (.if_icmp .ge 33, 12, 42, .null, 0), none, none, some (.aload_n 0, 13, 0, .null, 0), some (.iconst 1, 14, 0, .int 1, 0), some (.iload_n 2, 15, 0, .null, 0), some (.ishl, 16, 0, .null, 0)],
  [some (.putfield 166, 19, 525, .null, 736), none, none, some (.iload_n 1, 20, 0, .null, 0), some (.aload_n 0, 21, 0, .null, 0), some (.invokevirtual 264, 24, 177, .null, 1107), none, none, some (.ifCond .eq 9, 27, 33, .null, 0), none, none, some (.iconst 1, 28, 0, .int 1, 0), some (.iload_n 2, 29, 0, .null, 0), some (.ishl, 30, 0, .null, 0), some (.goto 4, 33, 34, .null, 0), none],
  [none, some (.iconst 0, 34, 0, .int 0, 0), some (.ior, 35, 0, .null, 0), some (.istore_n 1, 36, 0, .null, 0), some (.iinc 2 1, 39, 0, .int 1, 0), none, none, some (.goto (-35), 42, 4, .null, 0), none, none, some (.aload_n 0, 43, 0, .null, 0), some (.iconst 0, 44, 0, .int 0, 0), some (.putfield 166, 47, 525, .null, 736), none, none, some (.iload_n 1, 48, 0, .null, 0)],
  [some (.ireturn, 49, 0, .null, 0)]])
def mX8_never : iMeth := (yX8_never, cX8_never, 1, (some .int), 0, 18, [1102, 82, 1100, 1101], [
  [some (.aload_n 0, 1, 0, .null, 0), some (.invokevirtual 206, 4, 145, .null, 941), none, none, some (.aload_n 0, 5, 0, .null, 0), some (.invokevirtual 268, 8, 178, .null, 1103), none, none, some (.ireturn, 9, 0, .null, 0)]])
def mX8_rowOf : iMeth := (yX8_rowOf, cX8_rowOf, 5, (some .long), 1, 18, [1122, 82, 1121, 60], [
  [some (.lconst 0, 1, 0, .long 0, 0), some (.lstore_n 2, 2, 0, .null, 0), some (.iconst 0, 3, 0, .int 0, 0), some (.istore 4, 5, 0, .null, 0), none, some (.iload 4, 7, 0, .null, 0), none, some (.aload_n 0, 8, 0, .null, 0), some (.getfield 123, 11, 521, .null, 732), none, none, some (.if_icmp .ge 31, 14, 42, .null, 0), none, none, some (.ldc2_w 271, 17, 0, .long 18, 1123), none],
  [none, some (.lload_n 2, 18, 0, .null, 0), some (.lmul, 19, 0, .null, 0), some (.aload_n 0, 20, 0, .null, 0), some (.getfield 61, 23, 533, .null, 744), none, none, some (.bipush 8, 25, 0, .int 8, 0), none, some (.iload_n 1, 26, 0, .null, 0), some (.imul, 27, 0, .null, 0), some (.iload 4, 29, 0, .null, 0), none, some (.iadd, 30, 0, .null, 0), some (.iaload, 31, 0, .null, 0), some (.i2l, 32, 0, .null, 0)],
  [some (.ladd, 33, 0, .null, 0), some (.lconst 1, 34, 0, .long 1, 0), some (.ladd, 35, 0, .null, 0), some (.lstore_n 2, 36, 0, .null, 0), some (.iinc 4 1, 39, 0, .int 1, 0), none, none, some (.goto (-34), 42, 5, .null, 0), none, none, some (.lload_n 2, 43, 0, .null, 0), some (.lreturn, 44, 0, .null, 0)]])
def mX8_draughtsOf : iMeth := (yX8_draughtsOf, cX8_draughtsOf, 6, (some .int), 1, 18, [1118, 82, 1117, 59], [
  [some (.aload_n 0, 1, 0, .null, 0), some (.getfield 34, 4, 522, .null, 733), none, none, some (.iconst 3, 5, 0, .int 3, 0), some (.iload_n 1, 6, 0, .null, 0), some (.imul, 7, 0, .null, 0), some (.iconst 1, 8, 0, .int 1, 0), some (.iadd, 9, 0, .null, 0), some (.iaload, 10, 0, .null, 0), some (.istore_n 2, 11, 0, .null, 0), some (.iconst 0, 12, 0, .int 0, 0), some (.istore_n 3, 13, 0, .null, 0), some (.iconst 1, 14, 0, .int 1, 0), some (.istore 4, 16, 0, .null, 0), none],
  [some (.iload 4, 18, 0, .null, 0), none, some (.bipush 10, 20, 0, .int 10, 0), none, some (.if_icmp .ge 74, 23, 94, .null, 0), none, none, some (.aload_n 0, 24, 0, .null, 0), some (.getfield 34, 27, 522, .null, 733), none, none, some (.iconst 3, 28, 0, .int 3, 0), some (.iload_n 1, 29, 0, .null, 0), some (.imul, 30, 0, .null, 0), some (.iconst 1, 31, 0, .int 1, 0), some (.iadd, 32, 0, .null, 0)],
  [some (.iload 4, 34, 0, .null, 0), none, some (.iastore, 35, 0, .null, 0), some (.iload_n 3, 36, 0, .null, 0), some (.aload_n 0, 37, 0, .null, 0), some (.invokevirtual 264, 40, 177, .null, 1107), none, none, some (.ifCond .eq 10, 43, 50, .null, 0), none, none, some (.iconst 1, 44, 0, .int 1, 0), some (.iload 4, 46, 0, .null, 0), none, some (.ishl, 47, 0, .null, 0), some (.goto 4, 50, 51, .null, 0)],
  [none, none, some (.iconst 0, 51, 0, .int 0, 0), some (.ior, 52, 0, .null, 0), some (.istore_n 3, 53, 0, .null, 0), some (.iconst 0, 54, 0, .int 0, 0), some (.istore 5, 56, 0, .null, 0), none, some (.iload 5, 58, 0, .null, 0), none, some (.bipush 24, 60, 0, .int 24, 0), none, some (.if_icmp .ge 28, 63, 88, .null, 0), none, none, some (.aload_n 0, 64, 0, .null, 0)],
  [some (.getfield 70, 67, 537, .null, 748), none, none, some (.bipush 24, 69, 0, .int 24, 0), none, some (.iload 4, 71, 0, .null, 0), none, some (.imul, 72, 0, .null, 0), some (.iload 5, 74, 0, .null, 0), none, some (.iadd, 75, 0, .null, 0), some (.aload_n 0, 76, 0, .null, 0), some (.iload 5, 78, 0, .null, 0), none, some (.invokevirtual 273, 81, 180, .null, 1119), none],
  [none, some (.lastore, 82, 0, .null, 0), some (.iinc 5 1, 85, 0, .int 1, 0), none, none, some (.goto (-29), 88, 56, .null, 0), none, none, some (.iinc 4 1, 91, 0, .int 1, 0), none, none, some (.goto (-75), 94, 16, .null, 0), none, none, some (.aload_n 0, 95, 0, .null, 0), some (.getfield 34, 98, 522, .null, 733)],
  [none, none, some (.iconst 3, 99, 0, .int 3, 0), some (.iload_n 1, 100, 0, .null, 0), some (.imul, 101, 0, .null, 0), some (.iconst 1, 102, 0, .int 1, 0), some (.iadd, 103, 0, .null, 0), some (.iload_n 2, 104, 0, .null, 0), some (.iastore, 105, 0, .null, 0), some (.iload_n 3, 106, 0, .null, 0), some (.ireturn, 107, 0, .null, 0)]])
def mX8_draughts : iMeth := (yX8_draughts, cX8_draughts, 2, (some .int), 1, 18, [1114, 82, 1112, 1113], [
  [some (.aload_n 0, 1, 0, .null, 0), some (.invokevirtual 206, 4, 145, .null, 941), none, none, some (.aload_n 0, 5, 0, .null, 0), some (.iload_n 1, 6, 0, .null, 0), some (.invokevirtual 155, 9, 130, .null, 916), none, none, some (.ifCond .eq 11, 12, 20, .null, 0), none, none, some (.aload_n 0, 13, 0, .null, 0), some (.iload_n 1, 14, 0, .null, 0), some (.invokevirtual 277, 17, 181, .null, 1115), none],
  [none, some (.goto 5, 20, 22, .null, 0), none, none, some (.bipush (-2), 22, 0, .int (-2), 0), none, some (.ireturn, 23, 0, .null, 0)]])
def mX8_gradeOf : iMeth := (yX8_gradeOf, cX8_gradeOf, 5, (some .int), 1, 18, [1131, 82, 1130, 61], [
  [some (.aload_n 0, 1, 0, .null, 0), some (.getfield 28, 4, 519, .null, 730), none, none, some (.iload_n 1, 5, 0, .null, 0), some (.iaload, 6, 0, .null, 0), some (.istore_n 2, 7, 0, .null, 0), some (.iconst 0, 8, 0, .int 0, 0), some (.istore_n 3, 9, 0, .null, 0), some (.iconst 1, 10, 0, .int 1, 0), some (.istore 4, 12, 0, .null, 0), none, some (.iload 4, 14, 0, .null, 0), none, some (.iconst 4, 15, 0, .int 4, 0), some (.if_icmp .ge 35, 18, 50, .null, 0)],
  [none, none, some (.aload_n 0, 19, 0, .null, 0), some (.getfield 28, 22, 519, .null, 730), none, none, some (.iload_n 1, 23, 0, .null, 0), some (.iload 4, 25, 0, .null, 0), none, some (.iastore, 26, 0, .null, 0), some (.iload_n 3, 27, 0, .null, 0), some (.aload_n 0, 28, 0, .null, 0), some (.invokevirtual 264, 31, 177, .null, 1107), none, none, some (.ifCond .eq 10, 34, 41, .null, 0)],
  [none, none, some (.iconst 1, 35, 0, .int 1, 0), some (.iload 4, 37, 0, .null, 0), none, some (.ishl, 38, 0, .null, 0), some (.goto 4, 41, 42, .null, 0), none, none, some (.iconst 0, 42, 0, .int 0, 0), some (.ior, 43, 0, .null, 0), some (.istore_n 3, 44, 0, .null, 0), some (.iinc 4 1, 47, 0, .int 1, 0), none, none, some (.goto (-35), 50, 12, .null, 0)],
  [none, none, some (.aload_n 0, 51, 0, .null, 0), some (.getfield 28, 54, 519, .null, 730), none, none, some (.iload_n 1, 55, 0, .null, 0), some (.iload_n 2, 56, 0, .null, 0), some (.iastore, 57, 0, .null, 0), some (.iload_n 3, 58, 0, .null, 0), some (.ireturn, 59, 0, .null, 0)]])
def mX8_grade : iMeth := (yX8_grade, cX8_grade, 2, (some .int), 1, 18, [1127, 82, 1125, 1126], [
  [some (.aload_n 0, 1, 0, .null, 0), some (.invokevirtual 206, 4, 145, .null, 941), none, none, some (.iload_n 1, 5, 0, .null, 0), some (.invokestatic 146, 8, 128, .null, 901), none, none, some (.ifCond .eq 11, 11, 19, .null, 0), none, none, some (.aload_n 0, 12, 0, .null, 0), some (.iload_n 1, 13, 0, .null, 0), some (.invokevirtual 280, 16, 183, .null, 1128), none, none],
  [some (.goto 5, 19, 21, .null, 0), none, none, some (.bipush (-2), 21, 0, .int (-2), 0), none, some (.ireturn, 22, 0, .null, 0)]])
def mX8_alike : iMeth := (yX8_alike, cX8_alike, 7, (some .int), 2, 18, [1143, 82, 1142, 63], [
  [some (.iconst 0, 1, 0, .int 0, 0), some (.istore_n 3, 2, 0, .null, 0), some (.iconst 1, 3, 0, .int 1, 0), some (.istore 4, 5, 0, .null, 0), none, some (.iload 4, 7, 0, .null, 0), none, some (.bipush 10, 9, 0, .int 10, 0), none, some (.if_icmp .ge 91, 12, 100, .null, 0), none, none, some (.iconst 0, 13, 0, .int 0, 0), some (.istore 5, 15, 0, .null, 0), none, some (.iconst 1, 16, 0, .int 1, 0)],
  [some (.istore 6, 18, 0, .null, 0), none, some (.iload 6, 20, 0, .null, 0), none, some (.bipush 10, 22, 0, .int 10, 0), none, some (.if_icmp .ge 65, 25, 87, .null, 0), none, none, some (.iload 5, 27, 0, .null, 0), none, some (.iload_n 1, 28, 0, .null, 0), some (.iload 4, 30, 0, .null, 0), none, some (.invokestatic 169, 33, 102, .null, 961), none],
  [none, some (.ifCond .eq 44, 36, 77, .null, 0), none, none, some (.iload_n 1, 37, 0, .null, 0), some (.iload 6, 39, 0, .null, 0), none, some (.invokestatic 169, 42, 102, .null, 961), none, none, some (.ifCond .eq 35, 45, 77, .null, 0), none, none, some (.aload_n 0, 46, 0, .null, 0), some (.getfield 70, 49, 537, .null, 748), none],
  [none, some (.bipush 24, 51, 0, .int 24, 0), none, some (.iload 4, 53, 0, .null, 0), none, some (.imul, 54, 0, .null, 0), some (.iload_n 2, 55, 0, .null, 0), some (.iadd, 56, 0, .null, 0), some (.laload, 57, 0, .null, 0), some (.aload_n 0, 58, 0, .null, 0), some (.getfield 70, 61, 537, .null, 748), none, none, some (.bipush 24, 63, 0, .int 24, 0), none, some (.iload 6, 65, 0, .null, 0)],
  [none, some (.imul, 66, 0, .null, 0), some (.iload_n 2, 67, 0, .null, 0), some (.iadd, 68, 0, .null, 0), some (.laload, 69, 0, .null, 0), some (.lcmp, 70, 0, .null, 0), some (.ifCond .ne 7, 73, 77, .null, 0), none, none, some (.iconst 1, 74, 0, .int 1, 0), some (.goto 4, 77, 78, .null, 0), none, none, some (.iconst 0, 78, 0, .int 0, 0), some (.iadd, 79, 0, .null, 0), some (.istore 5, 81, 0, .null, 0)],
  [none, some (.iinc 6 1, 84, 0, .int 1, 0), none, none, some (.goto (-66), 87, 18, .null, 0), none, none, some (.iload 5, 89, 0, .null, 0), none, some (.iload_n 3, 90, 0, .null, 0), some (.invokestatic 224, 93, 104, .null, 1034), none, none, some (.istore_n 3, 94, 0, .null, 0), some (.iinc 4 1, 97, 0, .int 1, 0), none],
  [none, some (.goto (-92), 100, 5, .null, 0), none, none, some (.iload_n 3, 101, 0, .null, 0), some (.ireturn, 102, 0, .null, 0)]])
def mX8_askOf : iMeth := (yX8_askOf, cX8_askOf, 5, (some .int), 1, 18, [1139, 82, 1138, 62], [
  [some (.aload_n 0, 1, 0, .null, 0), some (.iload_n 1, 2, 0, .null, 0), some (.invokevirtual 277, 5, 181, .null, 1115), none, none, some (.istore_n 2, 6, 0, .null, 0), some (.iconst 0, 7, 0, .int 0, 0), some (.istore_n 3, 8, 0, .null, 0), some (.iconst 1, 9, 0, .int 1, 0), some (.istore 4, 11, 0, .null, 0), none, some (.iload 4, 13, 0, .null, 0), none, some (.bipush 24, 15, 0, .int 24, 0), none, some (.if_icmp .ge 32, 18, 47, .null, 0)],
  [none, none, some (.aload_n 0, 19, 0, .null, 0), some (.iload_n 2, 20, 0, .null, 0), some (.iload 4, 22, 0, .null, 0), none, some (.invokevirtual 283, 25, 185, .null, 1140), none, none, some (.aload_n 0, 26, 0, .null, 0), some (.iload_n 2, 27, 0, .null, 0), some (.iload_n 3, 28, 0, .null, 0), some (.invokevirtual 283, 31, 185, .null, 1140), none, none, some (.if_icmp .ge 8, 34, 39, .null, 0)],
  [none, none, some (.iload 4, 36, 0, .null, 0), none, some (.goto 4, 39, 40, .null, 0), none, none, some (.iload_n 3, 40, 0, .null, 0), some (.istore_n 3, 41, 0, .null, 0), some (.iinc 4 1, 44, 0, .int 1, 0), none, none, some (.goto (-33), 47, 11, .null, 0), none, none, some (.iload_n 3, 48, 0, .null, 0)],
  [some (.ireturn, 49, 0, .null, 0)]])
def mX8_ask : iMeth := (yX8_ask, cX8_ask, 2, (some .int), 1, 18, [1135, 82, 1133, 1134], [
  [some (.aload_n 0, 1, 0, .null, 0), some (.invokevirtual 206, 4, 145, .null, 941), none, none, some (.aload_n 0, 5, 0, .null, 0), some (.iload_n 1, 6, 0, .null, 0), some (.invokevirtual 155, 9, 130, .null, 916), none, none, some (.ifCond .eq 11, 12, 20, .null, 0), none, none, some (.aload_n 0, 13, 0, .null, 0), some (.iload_n 1, 14, 0, .null, 0), some (.invokevirtual 286, 17, 186, .null, 1136), none],
  [none, some (.goto 5, 20, 22, .null, 0), none, none, some (.bipush (-2), 22, 0, .int (-2), 0), none, some (.ireturn, 23, 0, .null, 0)]])
def mX8_chanceOf : iMeth := (yX8_chanceOf, cX8_chanceOf, 10, (some .long), 3, 18, [1152, 82, 1151, 64], [
  [some (.lconst 0, 1, 0, .long 0, 0), some (.lstore 4, 3, 0, .null, 0), none, some (.iconst 0, 4, 0, .int 0, 0), some (.istore 6, 6, 0, .null, 0), none, some (.iload 6, 8, 0, .null, 0), none, some (.iconst 1, 9, 0, .int 1, 0), some (.aload_n 0, 10, 0, .null, 0), some (.getfield 161, 13, 523, .null, 734), none, none, some (.ishl, 14, 0, .null, 0), some (.if_icmp .ge 86, 17, 100, .null, 0), none],
  [none, some (.aload_n 0, 18, 0, .null, 0), some (.iload 6, 20, 0, .null, 0), none, some (.putfield 166, 23, 525, .null, 736), none, none, some (.aload_n 0, 24, 0, .null, 0), some (.invokevirtual 200, 27, 144, .null, 945), none, none, some (.aload_n 0, 28, 0, .null, 0), some (.getfield 49, 31, 529, .null, 740), none, none, some (.iload_n 2, 32, 0, .null, 0)],
  [some (.iaload, 33, 0, .null, 0), some (.iconst (-1), 34, 0, .int (-1), 0), some (.if_icmp .eq 7, 37, 41, .null, 0), none, none, some (.lconst 1, 38, 0, .long 1, 0), some (.goto 4, 41, 42, .null, 0), none, none, some (.lconst 0, 42, 0, .long 0, 0), some (.lstore 7, 44, 0, .null, 0), none, some (.iconst 0, 45, 0, .int 0, 0), some (.istore 9, 47, 0, .null, 0), none, some (.iload 9, 49, 0, .null, 0)],
  [none, some (.aload_n 0, 50, 0, .null, 0), some (.getfield 161, 53, 523, .null, 734), none, none, some (.if_icmp .ge 34, 56, 87, .null, 0), none, none, some (.lload 7, 58, 0, .null, 0), none, some (.iload 6, 60, 0, .null, 0), none, some (.iload 9, 62, 0, .null, 0), none, some (.invokestatic 169, 65, 102, .null, 961), none],
  [none, some (.ifCond .eq 11, 68, 76, .null, 0), none, none, some (.bipush 16, 70, 0, .int 16, 0), none, some (.iload_n 1, 71, 0, .null, 0), some (.isub, 72, 0, .null, 0), some (.i2l, 73, 0, .null, 0), some (.goto 5, 76, 78, .null, 0), none, none, some (.iload_n 1, 77, 0, .null, 0), some (.i2l, 78, 0, .null, 0), some (.lmul, 79, 0, .null, 0), some (.lstore 7, 81, 0, .null, 0)],
  [none, some (.iinc 9 1, 84, 0, .int 1, 0), none, none, some (.goto (-37), 87, 47, .null, 0), none, none, some (.lload 4, 89, 0, .null, 0), none, some (.lload 7, 91, 0, .null, 0), none, some (.ladd, 92, 0, .null, 0), some (.lstore 4, 94, 0, .null, 0), none, some (.iinc 6 1, 97, 0, .int 1, 0), none],
  [none, some (.goto (-91), 100, 6, .null, 0), none, none, some (.aload_n 0, 101, 0, .null, 0), some (.iconst 0, 102, 0, .int 0, 0), some (.putfield 166, 105, 525, .null, 736), none, none, some (.lload 4, 107, 0, .null, 0), none, some (.lconst 1, 108, 0, .long 1, 0), some (.iconst 4, 109, 0, .int 4, 0), some (.aload_n 0, 110, 0, .null, 0), some (.getfield 161, 113, 523, .null, 734), none],
  [none, some (.imul, 114, 0, .null, 0), some (.lshl, 115, 0, .null, 0), some (.iload_n 3, 116, 0, .null, 0), some (.invokestatic 289, 119, 105, .null, 1153), none, none, some (.lreturn, 120, 0, .null, 0)]])
def mX8_chance : iMeth := (yX8_chance, cX8_chance, 4, (some .long), 3, 18, [1147, 82, 1145, 1146], [
  [some (.aload_n 0, 1, 0, .null, 0), some (.invokevirtual 206, 4, 145, .null, 941), none, none, some (.iload_n 1, 5, 0, .null, 0), some (.i2l, 6, 0, .null, 0), some (.lconst 0, 7, 0, .long 0, 0), some (.ldc2_w 293, 10, 0, .long 16, 1148), none, none, some (.invokestatic 76, 13, 99, .null, 813), none, none, some (.ifCond .eq 28, 16, 41, .null, 0), none, none],
  [some (.aload_n 0, 17, 0, .null, 0), some (.iload_n 2, 18, 0, .null, 0), some (.invokevirtual 155, 21, 130, .null, 916), none, none, some (.ifCond .eq 20, 24, 41, .null, 0), none, none, some (.iload_n 3, 25, 0, .null, 0), some (.invokestatic 149, 28, 101, .null, 905), none, none, some (.ifCond .eq 13, 31, 41, .null, 0), none, none, some (.aload_n 0, 32, 0, .null, 0)],
  [some (.iload_n 1, 33, 0, .null, 0), some (.iload_n 2, 34, 0, .null, 0), some (.iload_n 3, 35, 0, .null, 0), some (.invokevirtual 295, 38, 188, .null, 1149), none, none, some (.goto 8, 41, 46, .null, 0), none, none, some (.bipush (-2), 43, 0, .int (-2), 0), none, some (.invokestatic 299, 46, 100, .null, 1156), none, none, some (.lreturn, 47, 0, .null, 0)]])
def mX8_lot : iMeth := (yX8_lot, cX8_lot, 2, (some .int), 1, 18, [1171, 82, 1170, 66], [
  [some (.aload_n 0, 1, 0, .null, 0), some (.ldc_w 302, 4, 0, .int 1103515245, 1172), none, none, some (.aload_n 0, 5, 0, .null, 0), some (.getfield 303, 8, 538, .null, 749), none, none, some (.imul, 9, 0, .null, 0), some (.sipush 12345, 12, 0, .int 12345, 0), none, none, some (.iadd, 13, 0, .null, 0), some (.putfield 303, 16, 538, .null, 749), none, none],
  [some (.aload_n 0, 17, 0, .null, 0), some (.getfield 303, 20, 538, .null, 749), none, none, some (.bipush 16, 22, 0, .int 16, 0), none, some (.iushr, 23, 0, .null, 0), some (.iload_n 1, 24, 0, .null, 0), some (.irem, 25, 0, .null, 0), some (.ireturn, 26, 0, .null, 0)]])
def mX8_seasonsOf : iMeth := (yX8_seasonsOf, cX8_seasonsOf, 5, (some .int), 3, 18, [1167, 82, 1166, 65], [
  [some (.aload_n 0, 1, 0, .null, 0), some (.iload_n 1, 2, 0, .null, 0), some (.putfield 303, 5, 538, .null, 749), none, none, some (.iconst 0, 6, 0, .int 0, 0), some (.istore 4, 8, 0, .null, 0), none, some (.iload 4, 10, 0, .null, 0), none, some (.bipush 16, 12, 0, .int 16, 0), none, some (.if_icmp .ge 32, 15, 44, .null, 0), none, none, some (.aload_n 0, 16, 0, .null, 0)],
  [some (.getfield 31, 19, 520, .null, 731), none, none, some (.iload 4, 21, 0, .null, 0), none, some (.iload 4, 23, 0, .null, 0), none, some (.iload_n 2, 24, 0, .null, 0), some (.if_icmp .ge 12, 27, 36, .null, 0), none, none, some (.aload_n 0, 28, 0, .null, 0), some (.bipush 10, 30, 0, .int 10, 0), none, some (.invokevirtual 306, 33, 190, .null, 1168), none],
  [none, some (.goto 4, 36, 37, .null, 0), none, none, some (.iconst 0, 37, 0, .int 0, 0), some (.iastore, 38, 0, .null, 0), some (.iinc 4 1, 41, 0, .int 1, 0), none, none, some (.goto (-33), 44, 8, .null, 0), none, none, some (.aload_n 0, 45, 0, .null, 0), some (.invokevirtual 200, 48, 144, .null, 945), none, none],
  [some (.iload_n 3, 49, 0, .null, 0), some (.ifCond .ne 10, 52, 59, .null, 0), none, none, some (.aload_n 0, 53, 0, .null, 0), some (.invokevirtual 239, 56, 163, .null, 1057), none, none, some (.goto 7, 59, 63, .null, 0), none, none, some (.aload_n 0, 60, 0, .null, 0), some (.invokevirtual 309, 63, 164, .null, 1173), none, none, some (.istore 4, 65, 0, .null, 0)],
  [none, some (.aload_n 0, 66, 0, .null, 0), some (.invokevirtual 133, 69, 123, .null, 880), none, none, some (.pop, 70, 0, .null, 0), some (.iload 4, 72, 0, .null, 0), none, some (.ireturn, 73, 0, .null, 0)]])
def mX8_seasons : iMeth := (yX8_seasons, cX8_seasons, 4, (some .int), 3, 18, [1163, 82, 1161, 1162], [
  [some (.aload_n 0, 1, 0, .null, 0), some (.invokevirtual 206, 4, 145, .null, 941), none, none, some (.iload_n 2, 5, 0, .null, 0), some (.i2l, 6, 0, .null, 0), some (.lconst 0, 7, 0, .long 0, 0), some (.ldc2_w 293, 10, 0, .long 16, 1148), none, none, some (.invokestatic 76, 13, 99, .null, 813), none, none, some (.ifCond .eq 20, 16, 33, .null, 0), none, none],
  [some (.iload_n 3, 17, 0, .null, 0), some (.invokestatic 149, 20, 101, .null, 905), none, none, some (.ifCond .eq 13, 23, 33, .null, 0), none, none, some (.aload_n 0, 24, 0, .null, 0), some (.iload_n 1, 25, 0, .null, 0), some (.iload_n 2, 26, 0, .null, 0), some (.iload_n 3, 27, 0, .null, 0), some (.invokevirtual 312, 30, 191, .null, 1164), none, none, some (.goto 5, 33, 35, .null, 0), none],
  [none, some (.bipush (-2), 35, 0, .int (-2), 0), none, some (.ireturn, 36, 0, .null, 0)]])
def mX8_write : iMeth := (yX8_write, cX8_write, 5, (some .int), 2, 18, [1180, 82, 1178, 1179], [
  [some (.iload_n 1, 1, 0, .null, 0), some (.invokestatic 158, 4, 129, .null, 924), none, none, some (.ifCond .eq 10, 7, 14, .null, 0), none, none, some (.iload_n 2, 8, 0, .null, 0), some (.invokestatic 86, 11, 107, .null, 809), none, none, some (.ifCond .ne 6, 14, 17, .null, 0), none, none, some (.bipush (-2), 16, 0, .int (-2), 0), none],
  [some (.ireturn, 17, 0, .null, 0), some (.aload_n 0, 18, 0, .null, 0), some (.getfield 7, 21, 512, .null, 723), none, none, some (.iload_n 2, 22, 0, .null, 0), some (.iaload, 23, 0, .null, 0), some (.ifCond .ge 9, 26, 32, .null, 0), none, none, some (.aload_n 0, 27, 0, .null, 0), some (.iconst 1, 28, 0, .int 1, 0), some (.invokevirtual 92, 31, 106, .null, 817), none, none, some (.ireturn, 32, 0, .null, 0)],
  [some (.aload_n 0, 33, 0, .null, 0), some (.invokevirtual 206, 36, 145, .null, 941), none, none, some (.aload_n 0, 37, 0, .null, 0), some (.getfield 13, 40, 513, .null, 724), none, none, some (.iload_n 2, 41, 0, .null, 0), some (.iaload, 42, 0, .null, 0), some (.bipush 16, 44, 0, .int 16, 0), none, some (.invokestatic 176, 47, 103, .null, 964), none, none, some (.istore_n 3, 48, 0, .null, 0)],
  [some (.iconst 0, 49, 0, .int 0, 0), some (.istore 4, 51, 0, .null, 0), none, some (.iload 4, 53, 0, .null, 0), none, some (.iload_n 3, 54, 0, .null, 0), some (.if_icmp .ge 42, 57, 96, .null, 0), none, none, some (.aload_n 0, 58, 0, .null, 0), some (.getfield 16, 61, 514, .null, 725), none, none, some (.bipush 60, 63, 0, .int 60, 0), none, some (.iload_n 2, 64, 0, .null, 0)],
  [some (.imul, 65, 0, .null, 0), some (.iload 4, 67, 0, .null, 0), none, some (.iadd, 68, 0, .null, 0), some (.aload_n 0, 69, 0, .null, 0), some (.getfield 7, 72, 512, .null, 723), none, none, some (.iload_n 2, 73, 0, .null, 0), some (.iaload, 74, 0, .null, 0), some (.aload_n 0, 75, 0, .null, 0), some (.getfield 58, 78, 532, .null, 743), none, none, some (.bipush 16, 80, 0, .int 16, 0), none],
  [some (.iload_n 1, 81, 0, .null, 0), some (.imul, 82, 0, .null, 0), some (.iload 4, 84, 0, .null, 0), none, some (.iadd, 85, 0, .null, 0), some (.iaload, 86, 0, .null, 0), some (.invokestatic 100, 89, 111, .null, 833), none, none, some (.iastore, 90, 0, .null, 0), some (.iinc 4 1, 93, 0, .int 1, 0), none, none, some (.goto (-42), 96, 51, .null, 0), none, none],
  [some (.iload_n 3, 97, 0, .null, 0), some (.ireturn, 98, 0, .null, 0)]])
def mX8_count : iMeth := (yX8_count, cX8_count, 2, (some .int), 1, 18, [1184, 82, 1182, 1183], [
  [some (.aload_n 0, 1, 0, .null, 0), some (.invokevirtual 206, 4, 145, .null, 941), none, none, some (.iload_n 1, 5, 0, .null, 0), some (.tableswitch 115 0 8 #[51, 56, 77, 82, 87, 92, 97, 105, 110], 56, 0, .null, 0), none, none, none, none, none, none, none, none, none, none],
  [none, none, none, none, none, none, none, none, none, none, none, none, none, none, none, none],
  [none, none, none, none, none, none, none, none, none, none, none, none, none, none, none, none],
  [none, none, none, none, none, none, none, none, some (.aload_n 0, 57, 0, .null, 0), some (.getfield 123, 60, 521, .null, 732), none, none, some (.ireturn, 61, 0, .null, 0), some (.aload_n 0, 62, 0, .null, 0), some (.getfield 25, 65, 518, .null, 729), none],
  [none, some (.iconst 0, 66, 0, .int 0, 0), some (.iaload, 67, 0, .null, 0), some (.aload_n 0, 68, 0, .null, 0), some (.getfield 25, 71, 518, .null, 729), none, none, some (.iconst 1, 72, 0, .int 1, 0), some (.iaload, 73, 0, .null, 0), some (.iadd, 74, 0, .null, 0), some (.aload_n 0, 75, 0, .null, 0), some (.getfield 25, 78, 518, .null, 729), none, none, some (.iconst 2, 79, 0, .int 2, 0), some (.iaload, 80, 0, .null, 0)],
  [some (.iadd, 81, 0, .null, 0), some (.ireturn, 82, 0, .null, 0), some (.aload_n 0, 83, 0, .null, 0), some (.getfield 161, 86, 523, .null, 734), none, none, some (.ireturn, 87, 0, .null, 0), some (.aload_n 0, 88, 0, .null, 0), some (.invokevirtual 239, 91, 163, .null, 1057), none, none, some (.ireturn, 92, 0, .null, 0), some (.aload_n 0, 93, 0, .null, 0), some (.invokevirtual 309, 96, 164, .null, 1173), none, none],
  [some (.ireturn, 97, 0, .null, 0), some (.aload_n 0, 98, 0, .null, 0), some (.invokevirtual 315, 101, 165, .null, 1185), none, none, some (.ireturn, 102, 0, .null, 0), some (.aload_n 0, 103, 0, .null, 0), some (.bipush 23, 105, 0, .int 23, 0), none, some (.iconst 0, 106, 0, .int 0, 0), some (.invokevirtual 215, 109, 151, .null, 1002), none, none, some (.ireturn, 110, 0, .null, 0), some (.aload_n 0, 111, 0, .null, 0), some (.getfield 261, 114, 535, .null, 746)],
  [none, none, some (.ireturn, 115, 0, .null, 0), some (.aload_n 0, 116, 0, .null, 0), some (.getfield 80, 119, 516, .null, 727), none, none, some (.ireturn, 120, 0, .null, 0), some (.bipush (-2), 122, 0, .int (-2), 0), none, some (.ireturn, 123, 0, .null, 0)]])
def mX8_tellsSpan : iMeth := (yX8_tellsSpan, cX8_tellsSpan, 7, (some .long), 2, 18, [1199, 82, 1198, 69], [
  [some (.aload_n 0, 1, 0, .null, 0), some (.invokevirtual 200, 4, 144, .null, 945), none, none, some (.lload_n 1, 5, 0, .null, 0), some (.lstore 4, 7, 0, .null, 0), none, some (.iconst 0, 8, 0, .int 0, 0), some (.istore 6, 10, 0, .null, 0), none, some (.iload 6, 12, 0, .null, 0), none, some (.iconst 2, 13, 0, .int 2, 0), some (.if_icmp .ge 26, 16, 39, .null, 0), none, none],
  [some (.ldc2_w 318, 19, 0, .long 31, 1194), none, none, some (.lload 4, 21, 0, .null, 0), none, some (.lmul, 22, 0, .null, 0), some (.aload_n 0, 23, 0, .null, 0), some (.iload_n 3, 24, 0, .null, 0), some (.iload 6, 26, 0, .null, 0), none, some (.invokevirtual 152, 29, 131, .null, 908), none, none, some (.i2l, 30, 0, .null, 0), some (.ladd, 31, 0, .null, 0), some (.lstore 4, 33, 0, .null, 0)],
  [none, some (.iinc 6 1, 36, 0, .int 1, 0), none, none, some (.goto (-26), 39, 10, .null, 0), none, none, some (.iconst 0, 40, 0, .int 0, 0), some (.istore 6, 42, 0, .null, 0), none, some (.iload 6, 44, 0, .null, 0), none, some (.iconst 2, 45, 0, .int 2, 0), some (.if_icmp .ge 28, 48, 73, .null, 0), none, none],
  [some (.ldc2_w 318, 51, 0, .long 31, 1194), none, none, some (.lload 4, 53, 0, .null, 0), none, some (.lmul, 54, 0, .null, 0), some (.aload_n 0, 55, 0, .null, 0), some (.bipush 7, 57, 0, .int 7, 0), none, some (.iload_n 3, 58, 0, .null, 0), some (.iload 6, 60, 0, .null, 0), none, some (.invokevirtual 209, 63, 147, .null, 982), none, none, some (.i2l, 64, 0, .null, 0)],
  [some (.ladd, 65, 0, .null, 0), some (.lstore 4, 67, 0, .null, 0), none, some (.iinc 6 1, 70, 0, .int 1, 0), none, none, some (.goto (-28), 73, 42, .null, 0), none, none, some (.iconst 0, 74, 0, .int 0, 0), some (.istore 6, 76, 0, .null, 0), none, some (.iload 6, 78, 0, .null, 0), none, some (.iconst 2, 79, 0, .int 2, 0), some (.if_icmp .ge 28, 82, 107, .null, 0)],
  [none, none, some (.ldc2_w 318, 85, 0, .long 31, 1194), none, none, some (.lload 4, 87, 0, .null, 0), none, some (.lmul, 88, 0, .null, 0), some (.aload_n 0, 89, 0, .null, 0), some (.bipush 18, 91, 0, .int 18, 0), none, some (.iload_n 3, 92, 0, .null, 0), some (.iload 6, 94, 0, .null, 0), none, some (.invokevirtual 209, 97, 147, .null, 982), none],
  [none, some (.i2l, 98, 0, .null, 0), some (.ladd, 99, 0, .null, 0), some (.lstore 4, 101, 0, .null, 0), none, some (.iinc 6 1, 104, 0, .int 1, 0), none, none, some (.goto (-28), 107, 76, .null, 0), none, none, some (.ldc2_w 318, 110, 0, .long 31, 1194), none, none, some (.lload 4, 112, 0, .null, 0), none],
  [some (.lmul, 113, 0, .null, 0), some (.aload_n 0, 114, 0, .null, 0), some (.iload_n 3, 115, 0, .null, 0), some (.invokevirtual 280, 118, 183, .null, 1128), none, none, some (.i2l, 119, 0, .null, 0), some (.ladd, 120, 0, .null, 0), some (.lreturn, 121, 0, .null, 0)]])
def mX8_tellsMinute : iMeth := (yX8_tellsMinute, cX8_tellsMinute, 7, (some .long), 3, 18, [1207, 82, 1206, 71], [
  [some (.ldc2_w 318, 3, 0, .long 31, 1194), none, none, some (.lload_n 1, 4, 0, .null, 0), some (.lmul, 5, 0, .null, 0), some (.aload_n 0, 6, 0, .null, 0), some (.iload_n 3, 7, 0, .null, 0), some (.iload 4, 9, 0, .null, 0), none, some (.iconst 0, 10, 0, .int 0, 0), some (.invokevirtual 212, 13, 149, .null, 994), none, none, some (.i2l, 14, 0, .null, 0), some (.ladd, 15, 0, .null, 0), some (.lstore 5, 17, 0, .null, 0)],
  [none, some (.ldc2_w 318, 20, 0, .long 31, 1194), none, none, some (.lload 5, 22, 0, .null, 0), none, some (.lmul, 23, 0, .null, 0), some (.aload_n 0, 24, 0, .null, 0), some (.iload_n 3, 25, 0, .null, 0), some (.iload 4, 27, 0, .null, 0), none, some (.iconst 1, 28, 0, .int 1, 0), some (.invokevirtual 212, 31, 149, .null, 994), none, none, some (.i2l, 32, 0, .null, 0)],
  [some (.ladd, 33, 0, .null, 0), some (.lreturn, 34, 0, .null, 0)]])
def mX8_tellsLog : iMeth := (yX8_tellsLog, cX8_tellsLog, 7, (some .long), 2, 18, [1203, 82, 1202, 70], [
  [some (.aload_n 0, 1, 0, .null, 0), some (.invokevirtual 200, 4, 144, .null, 945), none, none, some (.lload_n 1, 5, 0, .null, 0), some (.lstore 4, 7, 0, .null, 0), none, some (.iconst 0, 8, 0, .int 0, 0), some (.istore 6, 10, 0, .null, 0), none, some (.iload 6, 12, 0, .null, 0), none, some (.iconst 3, 13, 0, .int 3, 0), some (.if_icmp .ge 30, 16, 43, .null, 0), none, none],
  [some (.ldc2_w 318, 19, 0, .long 31, 1194), none, none, some (.lload 4, 21, 0, .null, 0), none, some (.lmul, 22, 0, .null, 0), some (.aload_n 0, 23, 0, .null, 0), some (.getfield 34, 26, 522, .null, 733), none, none, some (.iconst 3, 27, 0, .int 3, 0), some (.iload_n 3, 28, 0, .null, 0), some (.imul, 29, 0, .null, 0), some (.iload 6, 31, 0, .null, 0), none, some (.iadd, 32, 0, .null, 0)],
  [some (.iaload, 33, 0, .null, 0), some (.i2l, 34, 0, .null, 0), some (.ladd, 35, 0, .null, 0), some (.lstore 4, 37, 0, .null, 0), none, some (.iinc 6 1, 40, 0, .int 1, 0), none, none, some (.goto (-30), 43, 10, .null, 0), none, none, some (.aload_n 0, 44, 0, .null, 0), some (.aload_n 0, 45, 0, .null, 0), some (.aload_n 0, 46, 0, .null, 0), some (.aload_n 0, 47, 0, .null, 0), some (.lload 4, 49, 0, .null, 0)],
  [none, some (.iconst 0, 50, 0, .int 0, 0), some (.iload_n 3, 51, 0, .null, 0), some (.invokevirtual 320, 54, 196, .null, 1204), none, none, some (.bipush 6, 56, 0, .int 6, 0), none, some (.iload_n 3, 57, 0, .null, 0), some (.invokevirtual 320, 60, 196, .null, 1204), none, none, some (.bipush 13, 62, 0, .int 13, 0), none, some (.iload_n 3, 63, 0, .null, 0), some (.invokevirtual 320, 66, 196, .null, 1204)],
  [none, none, some (.bipush 23, 68, 0, .int 23, 0), none, some (.iload_n 3, 69, 0, .null, 0), some (.invokevirtual 320, 72, 196, .null, 1204), none, none, some (.lstore 4, 74, 0, .null, 0), none, some (.iconst 0, 75, 0, .int 0, 0), some (.istore 6, 77, 0, .null, 0), none, some (.iload 6, 79, 0, .null, 0), none, some (.iconst 3, 80, 0, .int 3, 0)],
  [some (.if_icmp .ge 26, 83, 106, .null, 0), none, none, some (.ldc2_w 318, 86, 0, .long 31, 1194), none, none, some (.lload 4, 88, 0, .null, 0), none, some (.lmul, 89, 0, .null, 0), some (.aload_n 0, 90, 0, .null, 0), some (.iload_n 3, 91, 0, .null, 0), some (.iload 6, 93, 0, .null, 0), none, some (.invokevirtual 218, 96, 153, .null, 1010), none, none],
  [some (.i2l, 97, 0, .null, 0), some (.ladd, 98, 0, .null, 0), some (.lstore 4, 100, 0, .null, 0), none, some (.iinc 6 1, 103, 0, .int 1, 0), none, none, some (.goto (-26), 106, 77, .null, 0), none, none, some (.ldc2_w 318, 109, 0, .long 31, 1194), none, none, some (.lload 4, 111, 0, .null, 0), none, some (.lmul, 112, 0, .null, 0)],
  [some (.aload_n 0, 113, 0, .null, 0), some (.iload_n 3, 114, 0, .null, 0), some (.iconst 0, 115, 0, .int 0, 0), some (.invokevirtual 242, 118, 166, .null, 1053), none, none, some (.i2l, 119, 0, .null, 0), some (.ladd, 120, 0, .null, 0), some (.lstore 4, 122, 0, .null, 0), none, some (.ldc2_w 318, 125, 0, .long 31, 1194), none, none, some (.lload 4, 127, 0, .null, 0), none, some (.lmul, 128, 0, .null, 0)],
  [some (.aload_n 0, 129, 0, .null, 0), some (.iload_n 3, 130, 0, .null, 0), some (.iconst 1, 131, 0, .int 1, 0), some (.invokevirtual 242, 134, 166, .null, 1053), none, none, some (.i2l, 135, 0, .null, 0), some (.ladd, 136, 0, .null, 0), some (.lstore 4, 138, 0, .null, 0), none, some (.ldc2_w 318, 141, 0, .long 31, 1194), none, none, some (.lload 4, 143, 0, .null, 0), none, some (.lmul, 144, 0, .null, 0)],
  [some (.aload_n 0, 145, 0, .null, 0), some (.iload_n 3, 146, 0, .null, 0), some (.invokevirtual 277, 149, 181, .null, 1115), none, none, some (.i2l, 150, 0, .null, 0), some (.ladd, 151, 0, .null, 0), some (.lstore 4, 153, 0, .null, 0), none, some (.ldc2_w 318, 156, 0, .long 31, 1194), none, none, some (.lload 4, 158, 0, .null, 0), none, some (.lmul, 159, 0, .null, 0), some (.aload_n 0, 160, 0, .null, 0)],
  [some (.iload_n 3, 161, 0, .null, 0), some (.invokevirtual 286, 164, 186, .null, 1136), none, none, some (.i2l, 165, 0, .null, 0), some (.ladd, 166, 0, .null, 0), some (.lstore 4, 168, 0, .null, 0), none, some (.ldc2_w 318, 171, 0, .long 31, 1194), none, none, some (.lload 4, 173, 0, .null, 0), none, some (.lmul, 174, 0, .null, 0), some (.aload_n 0, 175, 0, .null, 0), some (.iconst 5, 176, 0, .int 5, 0)],
  [some (.iload_n 3, 177, 0, .null, 0), some (.iconst 0, 178, 0, .int 0, 0), some (.invokevirtual 295, 181, 188, .null, 1149), none, none, some (.ladd, 182, 0, .null, 0), some (.lstore 4, 184, 0, .null, 0), none, some (.ldc2_w 318, 187, 0, .long 31, 1194), none, none, some (.lload 4, 189, 0, .null, 0), none, some (.lmul, 190, 0, .null, 0), some (.aload_n 0, 191, 0, .null, 0), some (.iconst 5, 192, 0, .int 5, 0)],
  [some (.iload_n 3, 193, 0, .null, 0), some (.iconst 1, 194, 0, .int 1, 0), some (.invokevirtual 295, 197, 188, .null, 1149), none, none, some (.ladd, 198, 0, .null, 0), some (.lreturn, 199, 0, .null, 0)]])
def mX8_digest : iMeth := (yX8_digest, cX8_digest, 4, (some .long), 0, 18, [1192, 82, 1190, 1191], [
  [some (.ldc2_w 324, 3, 0, .long 17, 1193), none, none, some (.lstore_n 1, 4, 0, .null, 0), some (.iconst 0, 5, 0, .int 0, 0), some (.istore_n 3, 6, 0, .null, 0), some (.iload_n 3, 7, 0, .null, 0), some (.bipush 8, 9, 0, .int 8, 0), none, some (.if_icmp .ge 22, 12, 31, .null, 0), none, none, some (.ldc2_w 318, 15, 0, .long 31, 1194), none, none, some (.lload_n 1, 16, 0, .null, 0)],
  [some (.lmul, 17, 0, .null, 0), some (.aload_n 0, 18, 0, .null, 0), some (.iload_n 3, 19, 0, .null, 0), some (.invokevirtual 326, 22, 194, .null, 1195), none, none, some (.i2l, 23, 0, .null, 0), some (.ladd, 24, 0, .null, 0), some (.lstore_n 1, 25, 0, .null, 0), some (.iinc 3 1, 28, 0, .int 1, 0), none, none, some (.goto (-22), 31, 6, .null, 0), none, none, some (.iconst 0, 32, 0, .int 0, 0)],
  [some (.istore_n 3, 33, 0, .null, 0), some (.iload_n 3, 34, 0, .null, 0), some (.iconst 3, 35, 0, .int 3, 0), some (.if_icmp .ge 22, 38, 57, .null, 0), none, none, some (.ldc2_w 318, 41, 0, .long 31, 1194), none, none, some (.lload_n 1, 42, 0, .null, 0), some (.lmul, 43, 0, .null, 0), some (.aload_n 0, 44, 0, .null, 0), some (.iload_n 3, 45, 0, .null, 0), some (.invokevirtual 139, 48, 126, .null, 865), none, none],
  [some (.i2l, 49, 0, .null, 0), some (.ladd, 50, 0, .null, 0), some (.lstore_n 1, 51, 0, .null, 0), some (.iinc 3 1, 54, 0, .int 1, 0), none, none, some (.goto (-21), 57, 33, .null, 0), none, none, some (.aload_n 0, 58, 0, .null, 0), some (.invokevirtual 200, 61, 144, .null, 945), none, none, some (.iconst 0, 62, 0, .int 0, 0), some (.istore_n 3, 63, 0, .null, 0), some (.iload_n 3, 64, 0, .null, 0)],
  [some (.bipush 24, 66, 0, .int 24, 0), none, some (.if_icmp .ge 37, 69, 103, .null, 0), none, none, some (.ldc2_w 318, 72, 0, .long 31, 1194), none, none, some (.lload_n 1, 73, 0, .null, 0), some (.lmul, 74, 0, .null, 0), some (.aload_n 0, 75, 0, .null, 0), some (.iload_n 3, 76, 0, .null, 0), some (.iconst 0, 77, 0, .int 0, 0), some (.invokevirtual 215, 80, 151, .null, 1002), none, none],
  [some (.i2l, 81, 0, .null, 0), some (.ladd, 82, 0, .null, 0), some (.lstore_n 1, 83, 0, .null, 0), some (.ldc2_w 318, 86, 0, .long 31, 1194), none, none, some (.lload_n 1, 87, 0, .null, 0), some (.lmul, 88, 0, .null, 0), some (.aload_n 0, 89, 0, .null, 0), some (.iload_n 3, 90, 0, .null, 0), some (.iconst 1, 91, 0, .int 1, 0), some (.invokevirtual 215, 94, 151, .null, 1002), none, none, some (.i2l, 95, 0, .null, 0), some (.ladd, 96, 0, .null, 0)],
  [some (.lstore_n 1, 97, 0, .null, 0), some (.iinc 3 1, 100, 0, .int 1, 0), none, none, some (.goto (-37), 103, 63, .null, 0), none, none, some (.iconst 0, 104, 0, .int 0, 0), some (.istore_n 3, 105, 0, .null, 0), some (.iload_n 3, 106, 0, .null, 0), some (.bipush 16, 108, 0, .int 16, 0), none, some (.if_icmp .ge 16, 111, 124, .null, 0), none, none, some (.aload_n 0, 112, 0, .null, 0)],
  [some (.lload_n 1, 113, 0, .null, 0), some (.iload_n 3, 114, 0, .null, 0), some (.invokevirtual 329, 117, 195, .null, 1196), none, none, some (.lstore_n 1, 118, 0, .null, 0), some (.iinc 3 1, 121, 0, .int 1, 0), none, none, some (.goto (-16), 124, 105, .null, 0), none, none, some (.iconst 0, 125, 0, .int 0, 0), some (.istore_n 3, 126, 0, .null, 0), some (.iload_n 3, 127, 0, .null, 0), some (.aload_n 0, 128, 0, .null, 0)],
  [some (.getfield 123, 131, 521, .null, 732), none, none, some (.if_icmp .ge 16, 134, 147, .null, 0), none, none, some (.aload_n 0, 135, 0, .null, 0), some (.lload_n 1, 136, 0, .null, 0), some (.iload_n 3, 137, 0, .null, 0), some (.invokevirtual 333, 140, 197, .null, 1200), none, none, some (.lstore_n 1, 141, 0, .null, 0), some (.iinc 3 1, 144, 0, .int 1, 0), none, none],
  [some (.goto (-18), 147, 126, .null, 0), none, none, some (.aload_n 0, 148, 0, .null, 0), some (.invokevirtual 200, 151, 144, .null, 945), none, none, some (.ldc2_w 318, 154, 0, .long 31, 1194), none, none, some (.lload_n 1, 155, 0, .null, 0), some (.lmul, 156, 0, .null, 0), some (.aload_n 0, 157, 0, .null, 0), some (.invokevirtual 221, 160, 155, .null, 1018), none, none],
  [some (.i2l, 161, 0, .null, 0), some (.ladd, 162, 0, .null, 0), some (.lstore_n 1, 163, 0, .null, 0), some (.ldc2_w 318, 166, 0, .long 31, 1194), none, none, some (.lload_n 1, 167, 0, .null, 0), some (.lmul, 168, 0, .null, 0), some (.aload_n 0, 169, 0, .null, 0), some (.invokevirtual 227, 172, 157, .null, 1030), none, none, some (.i2l, 173, 0, .null, 0), some (.ladd, 174, 0, .null, 0), some (.lstore_n 1, 175, 0, .null, 0), some (.ldc2_w 318, 178, 0, .long 31, 1194)],
  [none, none, some (.lload_n 1, 179, 0, .null, 0), some (.lmul, 180, 0, .null, 0), some (.aload_n 0, 181, 0, .null, 0), some (.invokevirtual 230, 184, 158, .null, 1037), none, none, some (.i2l, 185, 0, .null, 0), some (.ladd, 186, 0, .null, 0), some (.lstore_n 1, 187, 0, .null, 0), some (.ldc2_w 318, 190, 0, .long 31, 1194), none, none, some (.lload_n 1, 191, 0, .null, 0), some (.lmul, 192, 0, .null, 0)],
  [some (.aload_n 0, 193, 0, .null, 0), some (.invokevirtual 236, 196, 161, .null, 1045), none, none, some (.i2l, 197, 0, .null, 0), some (.ladd, 198, 0, .null, 0), some (.lstore_n 1, 199, 0, .null, 0), some (.ldc2_w 318, 202, 0, .long 31, 1194), none, none, some (.lload_n 1, 203, 0, .null, 0), some (.lmul, 204, 0, .null, 0), some (.aload_n 0, 205, 0, .null, 0), some (.iconst 0, 206, 0, .int 0, 0), some (.invokevirtual 245, 209, 168, .null, 1065), none],
  [none, some (.i2l, 210, 0, .null, 0), some (.ladd, 211, 0, .null, 0), some (.lstore_n 1, 212, 0, .null, 0), some (.ldc2_w 318, 215, 0, .long 31, 1194), none, none, some (.lload_n 1, 216, 0, .null, 0), some (.lmul, 217, 0, .null, 0), some (.aload_n 0, 218, 0, .null, 0), some (.iconst 1, 219, 0, .int 1, 0), some (.invokevirtual 245, 222, 168, .null, 1065), none, none, some (.i2l, 223, 0, .null, 0), some (.ladd, 224, 0, .null, 0)],
  [some (.lstore_n 1, 225, 0, .null, 0), some (.ldc2_w 318, 228, 0, .long 31, 1194), none, none, some (.lload_n 1, 229, 0, .null, 0), some (.lmul, 230, 0, .null, 0), some (.aload_n 0, 231, 0, .null, 0), some (.iconst 0, 232, 0, .int 0, 0), some (.invokevirtual 248, 235, 170, .null, 1073), none, none, some (.i2l, 236, 0, .null, 0), some (.ladd, 237, 0, .null, 0), some (.lstore_n 1, 238, 0, .null, 0), some (.ldc2_w 318, 241, 0, .long 31, 1194), none],
  [none, some (.lload_n 1, 242, 0, .null, 0), some (.lmul, 243, 0, .null, 0), some (.aload_n 0, 244, 0, .null, 0), some (.iconst 1, 245, 0, .int 1, 0), some (.invokevirtual 248, 248, 170, .null, 1073), none, none, some (.i2l, 249, 0, .null, 0), some (.ladd, 250, 0, .null, 0), some (.lstore_n 1, 251, 0, .null, 0), some (.ldc2_w 318, 254, 0, .long 31, 1194), none, none, some (.lload_n 1, 255, 0, .null, 0), some (.lmul, 256, 0, .null, 0)],
  [some (.aload_n 0, 257, 0, .null, 0), some (.iconst (-1), 258, 0, .int (-1), 0), some (.invokevirtual 256, 261, 173, .null, 1082), none, none, some (.i2l, 262, 0, .null, 0), some (.ladd, 263, 0, .null, 0), some (.lstore_n 1, 264, 0, .null, 0), some (.ldc2_w 318, 267, 0, .long 31, 1194), none, none, some (.lload_n 1, 268, 0, .null, 0), some (.lmul, 269, 0, .null, 0), some (.aload_n 0, 270, 0, .null, 0), some (.iconst 0, 271, 0, .int 0, 0), some (.invokevirtual 256, 274, 173, .null, 1082)],
  [none, none, some (.i2l, 275, 0, .null, 0), some (.ladd, 276, 0, .null, 0), some (.lstore_n 1, 277, 0, .null, 0), some (.ldc2_w 318, 280, 0, .long 31, 1194), none, none, some (.lload_n 1, 281, 0, .null, 0), some (.lmul, 282, 0, .null, 0), some (.aload_n 0, 283, 0, .null, 0), some (.invokevirtual 268, 286, 178, .null, 1103), none, none, some (.i2l, 287, 0, .null, 0), some (.ladd, 288, 0, .null, 0)],
  [some (.lstore_n 1, 289, 0, .null, 0), some (.ldc2_w 318, 292, 0, .long 31, 1194), none, none, some (.lload_n 1, 293, 0, .null, 0), some (.lmul, 294, 0, .null, 0), some (.aload_n 0, 295, 0, .null, 0), some (.bipush 7, 297, 0, .int 7, 0), none, some (.bipush 11, 299, 0, .int 11, 0), none, some (.iconst 0, 300, 0, .int 0, 0), some (.invokevirtual 312, 303, 191, .null, 1164), none, none, some (.i2l, 304, 0, .null, 0)],
  [some (.ladd, 305, 0, .null, 0), some (.lstore_n 1, 306, 0, .null, 0), some (.ldc2_w 318, 309, 0, .long 31, 1194), none, none, some (.lload_n 1, 310, 0, .null, 0), some (.lmul, 311, 0, .null, 0), some (.aload_n 0, 312, 0, .null, 0), some (.bipush 7, 314, 0, .int 7, 0), none, some (.bipush 11, 316, 0, .int 11, 0), none, some (.iconst 1, 317, 0, .int 1, 0), some (.invokevirtual 312, 320, 191, .null, 1164), none, none],
  [some (.i2l, 321, 0, .null, 0), some (.ladd, 322, 0, .null, 0), some (.lreturn, 323, 0, .null, 0)]])
def mJ6_bitCount_0f7a4 : iMeth := (yJ6_bitCount_0f7a4, cJ6_bitCount_0f7a4, 1, (some .int), 1, 0, [519, 83, 518, 0], [
  [some (.iload_n 0, 1, 0, .null, 0), some (.iload_n 0, 2, 0, .null, 0), some (.iconst 1, 3, 0, .int 1, 0), some (.iushr, 4, 0, .null, 0), some (.ldc_w 265, 7, 0, .int 1431655765, 520), none, none, some (.iand, 8, 0, .null, 0), some (.isub, 9, 0, .null, 0), some (.istore_n 0, 10, 0, .null, 0), some (.iload_n 0, 11, 0, .null, 0), some (.ldc_w 266, 14, 0, .int 858993459, 521), none, none, some (.iand, 15, 0, .null, 0), some (.iload_n 0, 16, 0, .null, 0)],
  [some (.iconst 2, 17, 0, .int 2, 0), some (.iushr, 18, 0, .null, 0), some (.ldc_w 266, 21, 0, .int 858993459, 521), none, none, some (.iand, 22, 0, .null, 0), some (.iadd, 23, 0, .null, 0), some (.istore_n 0, 24, 0, .null, 0), some (.iload_n 0, 25, 0, .null, 0), some (.iload_n 0, 26, 0, .null, 0), some (.iconst 4, 27, 0, .int 4, 0), some (.iushr, 28, 0, .null, 0), some (.iadd, 29, 0, .null, 0), some (.ldc_w 267, 32, 0, .int 252645135, 522), none, none],
  [some (.iand, 33, 0, .null, 0), some (.istore_n 0, 34, 0, .null, 0), some (.iload_n 0, 35, 0, .null, 0), some (.iload_n 0, 36, 0, .null, 0), some (.bipush 8, 38, 0, .int 8, 0), none, some (.iushr, 39, 0, .null, 0), some (.iadd, 40, 0, .null, 0), some (.istore_n 0, 41, 0, .null, 0), some (.iload_n 0, 42, 0, .null, 0), some (.iload_n 0, 43, 0, .null, 0), some (.bipush 16, 45, 0, .int 16, 0), none, some (.iushr, 46, 0, .null, 0), some (.iadd, 47, 0, .null, 0), some (.istore_n 0, 48, 0, .null, 0)],
  [some (.iload_n 0, 49, 0, .null, 0), some (.bipush 63, 51, 0, .int 63, 0), none, some (.iand, 52, 0, .null, 0), some (.ireturn, 53, 0, .null, 0)]])
def mL_law : iMeth := (yL_law, cL_law, 4, (some .boolean), 1, 0, [0, 0, 0, 0], [
  [some (.new 7, 3, 7, .null, 85), none, none, some (.dup, 4, 0, .null, 0), some (.invokespecial 9, 7, 40, .null, 87), none, none, some (.astore_n 1, 8, 0, .null, 0), some (.new 10, 11, 8, .null, 717), none, none, some (.dup, 12, 0, .null, 0), some (.invokespecial 12, 15, 98, .null, 719), none, none, some (.astore_n 2, 16, 0, .null, 0)],
  [some (.iconst 0, 17, 0, .int 0, 0), some (.istore_n 3, 18, 0, .null, 0), some (.iload_n 3, 19, 0, .null, 0), some (.aload_n 0, 20, 0, .null, 0), some (.arraylength, 21, 0, .null, 0), some (.bipush 6, 23, 0, .int 6, 0), none, some (.isub, 24, 0, .null, 0), some (.if_icmp .gt 1244, 27, 1268, .null, 0), none, none, some (.aload_n 0, 28, 0, .null, 0), some (.iload_n 3, 29, 0, .null, 0), some (.iaload, 30, 0, .null, 0), some (.bipush 63, 32, 0, .int 63, 0), none],
  [some (.iand, 33, 0, .null, 0), some (.tableswitch 1229 0 35 #[159, 192, 215, 238, 261, 294, 327, 370, 383, 406, 449, 492, 525, 558, 571, 594, 607, 640, 663, 686, 709, 752, 765, 778, 801, 824, 847, 891, 934, 977, 1000, 1053, 1096, 1159, 1192, 1215], 192, 0, .null, 0), none, none, none, none, none, none, none, none, none, none, none, none, none, none],
  [none, none, none, none, none, none, none, none, none, none, none, none, none, none, none, none],
  [none, none, none, none, none, none, none, none, none, none, none, none, none, none, none, none],
  [none, none, none, none, none, none, none, none, none, none, none, none, none, none, none, none],
  [none, none, none, none, none, none, none, none, none, none, none, none, none, none, none, none],
  [none, none, none, none, none, none, none, none, none, none, none, none, none, none, none, none],
  [none, none, none, none, none, none, none, none, none, none, none, none, none, none, none, none],
  [none, none, none, none, none, none, none, none, none, none, none, none, none, none, none, none],
  [none, none, none, none, none, none, none, none, none, none, none, none, none, none, none, none],
  [none, none, none, none, none, none, none, none, none, none, none, none, none, none, none, none],
  [some (.aload_n 1, 193, 0, .null, 0), some (.aload_n 0, 194, 0, .null, 0), some (.iload_n 3, 195, 0, .null, 0), some (.iconst 1, 196, 0, .int 1, 0), some (.iadd, 197, 0, .null, 0), some (.iaload, 198, 0, .null, 0), some (.aload_n 0, 199, 0, .null, 0), some (.iload_n 3, 200, 0, .null, 0), some (.iconst 2, 201, 0, .int 2, 0), some (.iadd, 202, 0, .null, 0), some (.iaload, 203, 0, .null, 0), some (.invokevirtual 13, 206, 41, .null, 316), none, none, some (.aload_n 2, 207, 0, .null, 0), some (.aload_n 0, 208, 0, .null, 0)],
  [some (.iload_n 3, 209, 0, .null, 0), some (.iconst 1, 210, 0, .int 1, 0), some (.iadd, 211, 0, .null, 0), some (.iaload, 212, 0, .null, 0), some (.aload_n 0, 213, 0, .null, 0), some (.iload_n 3, 214, 0, .null, 0), some (.iconst 2, 215, 0, .int 2, 0), some (.iadd, 216, 0, .null, 0), some (.iaload, 217, 0, .null, 0), some (.invokevirtual 17, 220, 116, .null, 845), none, none, some (.if_icmp .eq 1042, 223, 1262, .null, 0), none, none, some (.iconst 0, 224, 0, .int 0, 0)],
  [some (.ireturn, 225, 0, .null, 0), some (.aload_n 1, 226, 0, .null, 0), some (.aload_n 0, 227, 0, .null, 0), some (.iload_n 3, 228, 0, .null, 0), some (.iconst 1, 229, 0, .int 1, 0), some (.iadd, 230, 0, .null, 0), some (.iaload, 231, 0, .null, 0), some (.invokevirtual 18, 234, 42, .null, 349), none, none, some (.aload_n 2, 235, 0, .null, 0), some (.aload_n 0, 236, 0, .null, 0), some (.iload_n 3, 237, 0, .null, 0), some (.iconst 1, 238, 0, .int 1, 0), some (.iadd, 239, 0, .null, 0), some (.iaload, 240, 0, .null, 0)],
  [some (.invokevirtual 22, 243, 117, .null, 853), none, none, some (.if_icmp .eq 1019, 246, 1262, .null, 0), none, none, some (.iconst 0, 247, 0, .int 0, 0), some (.ireturn, 248, 0, .null, 0), some (.aload_n 1, 249, 0, .null, 0), some (.aload_n 0, 250, 0, .null, 0), some (.iload_n 3, 251, 0, .null, 0), some (.iconst 1, 252, 0, .int 1, 0), some (.iadd, 253, 0, .null, 0), some (.iaload, 254, 0, .null, 0), some (.invokevirtual 23, 257, 43, .null, 353), none],
  [none, some (.aload_n 2, 258, 0, .null, 0), some (.aload_n 0, 259, 0, .null, 0), some (.iload_n 3, 260, 0, .null, 0), some (.iconst 1, 261, 0, .int 1, 0), some (.iadd, 262, 0, .null, 0), some (.iaload, 263, 0, .null, 0), some (.invokevirtual 26, 266, 118, .null, 857), none, none, some (.if_icmp .eq 996, 269, 1262, .null, 0), none, none, some (.iconst 0, 270, 0, .int 0, 0), some (.ireturn, 271, 0, .null, 0), some (.aload_n 1, 272, 0, .null, 0)],
  [some (.aload_n 0, 273, 0, .null, 0), some (.iload_n 3, 274, 0, .null, 0), some (.iconst 1, 275, 0, .int 1, 0), some (.iadd, 276, 0, .null, 0), some (.iaload, 277, 0, .null, 0), some (.invokevirtual 27, 280, 44, .null, 357), none, none, some (.aload_n 2, 281, 0, .null, 0), some (.aload_n 0, 282, 0, .null, 0), some (.iload_n 3, 283, 0, .null, 0), some (.iconst 1, 284, 0, .int 1, 0), some (.iadd, 285, 0, .null, 0), some (.iaload, 286, 0, .null, 0), some (.invokevirtual 30, 289, 127, .null, 861), none],
  [none, some (.if_icmp .eq 973, 292, 1262, .null, 0), none, none, some (.iconst 0, 293, 0, .int 0, 0), some (.ireturn, 294, 0, .null, 0), some (.aload_n 1, 295, 0, .null, 0), some (.aload_n 0, 296, 0, .null, 0), some (.iload_n 3, 297, 0, .null, 0), some (.iconst 1, 298, 0, .int 1, 0), some (.iadd, 299, 0, .null, 0), some (.iaload, 300, 0, .null, 0), some (.aload_n 0, 301, 0, .null, 0), some (.iload_n 3, 302, 0, .null, 0), some (.iconst 2, 303, 0, .int 2, 0), some (.iadd, 304, 0, .null, 0)],
  [some (.iaload, 305, 0, .null, 0), some (.invokevirtual 31, 308, 45, .null, 361), none, none, some (.aload_n 2, 309, 0, .null, 0), some (.aload_n 0, 310, 0, .null, 0), some (.iload_n 3, 311, 0, .null, 0), some (.iconst 1, 312, 0, .int 1, 0), some (.iadd, 313, 0, .null, 0), some (.iaload, 314, 0, .null, 0), some (.aload_n 0, 315, 0, .null, 0), some (.iload_n 3, 316, 0, .null, 0), some (.iconst 2, 317, 0, .int 2, 0), some (.iadd, 318, 0, .null, 0), some (.iaload, 319, 0, .null, 0), some (.invokevirtual 34, 322, 132, .null, 897)],
  [none, none, some (.if_icmp .eq 940, 325, 1262, .null, 0), none, none, some (.iconst 0, 326, 0, .int 0, 0), some (.ireturn, 327, 0, .null, 0), some (.aload_n 1, 328, 0, .null, 0), some (.aload_n 0, 329, 0, .null, 0), some (.iload_n 3, 330, 0, .null, 0), some (.iconst 1, 331, 0, .int 1, 0), some (.iadd, 332, 0, .null, 0), some (.iaload, 333, 0, .null, 0), some (.aload_n 0, 334, 0, .null, 0), some (.iload_n 3, 335, 0, .null, 0), some (.iconst 2, 336, 0, .int 2, 0)],
  [some (.iadd, 337, 0, .null, 0), some (.iaload, 338, 0, .null, 0), some (.invokevirtual 35, 341, 46, .null, 365), none, none, some (.aload_n 2, 342, 0, .null, 0), some (.aload_n 0, 343, 0, .null, 0), some (.iload_n 3, 344, 0, .null, 0), some (.iconst 1, 345, 0, .int 1, 0), some (.iadd, 346, 0, .null, 0), some (.iaload, 347, 0, .null, 0), some (.aload_n 0, 348, 0, .null, 0), some (.iload_n 3, 349, 0, .null, 0), some (.iconst 2, 350, 0, .int 2, 0), some (.iadd, 351, 0, .null, 0), some (.iaload, 352, 0, .null, 0)],
  [some (.invokevirtual 38, 355, 133, .null, 912), none, none, some (.if_icmp .eq 907, 358, 1262, .null, 0), none, none, some (.iconst 0, 359, 0, .int 0, 0), some (.ireturn, 360, 0, .null, 0), some (.aload_n 1, 361, 0, .null, 0), some (.aload_n 0, 362, 0, .null, 0), some (.iload_n 3, 363, 0, .null, 0), some (.iconst 1, 364, 0, .int 1, 0), some (.iadd, 365, 0, .null, 0), some (.iaload, 366, 0, .null, 0), some (.aload_n 0, 367, 0, .null, 0), some (.iload_n 3, 368, 0, .null, 0)],
  [some (.iconst 2, 369, 0, .int 2, 0), some (.iadd, 370, 0, .null, 0), some (.iaload, 371, 0, .null, 0), some (.aload_n 0, 372, 0, .null, 0), some (.iload_n 3, 373, 0, .null, 0), some (.iconst 3, 374, 0, .int 3, 0), some (.iadd, 375, 0, .null, 0), some (.iaload, 376, 0, .null, 0), some (.invokevirtual 39, 379, 47, .null, 373), none, none, some (.aload_n 2, 380, 0, .null, 0), some (.aload_n 0, 381, 0, .null, 0), some (.iload_n 3, 382, 0, .null, 0), some (.iconst 1, 383, 0, .int 1, 0), some (.iadd, 384, 0, .null, 0)],
  [some (.iaload, 385, 0, .null, 0), some (.aload_n 0, 386, 0, .null, 0), some (.iload_n 3, 387, 0, .null, 0), some (.iconst 2, 388, 0, .int 2, 0), some (.iadd, 389, 0, .null, 0), some (.iaload, 390, 0, .null, 0), some (.aload_n 0, 391, 0, .null, 0), some (.iload_n 3, 392, 0, .null, 0), some (.iconst 3, 393, 0, .int 3, 0), some (.iadd, 394, 0, .null, 0), some (.iaload, 395, 0, .null, 0), some (.invokevirtual 43, 398, 134, .null, 920), none, none, some (.if_icmp .eq 864, 401, 1262, .null, 0), none],
  [none, some (.iconst 0, 402, 0, .int 0, 0), some (.ireturn, 403, 0, .null, 0), some (.aload_n 1, 404, 0, .null, 0), some (.invokevirtual 44, 407, 48, .null, 385), none, none, some (.aload_n 2, 408, 0, .null, 0), some (.invokevirtual 48, 411, 135, .null, 928), none, none, some (.if_icmp .eq 851, 414, 1262, .null, 0), none, none, some (.iconst 0, 415, 0, .int 0, 0), some (.ireturn, 416, 0, .null, 0)],
  [some (.aload_n 1, 417, 0, .null, 0), some (.aload_n 0, 418, 0, .null, 0), some (.iload_n 3, 419, 0, .null, 0), some (.iconst 1, 420, 0, .int 1, 0), some (.iadd, 421, 0, .null, 0), some (.iaload, 422, 0, .null, 0), some (.invokevirtual 49, 425, 49, .null, 389), none, none, some (.aload_n 2, 426, 0, .null, 0), some (.aload_n 0, 427, 0, .null, 0), some (.iload_n 3, 428, 0, .null, 0), some (.iconst 1, 429, 0, .int 1, 0), some (.iadd, 430, 0, .null, 0), some (.iaload, 431, 0, .null, 0), some (.invokevirtual 52, 434, 136, .null, 932)],
  [none, none, some (.if_icmp .eq 828, 437, 1262, .null, 0), none, none, some (.iconst 0, 438, 0, .int 0, 0), some (.ireturn, 439, 0, .null, 0), some (.aload_n 1, 440, 0, .null, 0), some (.aload_n 0, 441, 0, .null, 0), some (.iload_n 3, 442, 0, .null, 0), some (.iconst 1, 443, 0, .int 1, 0), some (.iadd, 444, 0, .null, 0), some (.iaload, 445, 0, .null, 0), some (.aload_n 0, 446, 0, .null, 0), some (.iload_n 3, 447, 0, .null, 0), some (.iconst 2, 448, 0, .int 2, 0)],
  [some (.iadd, 449, 0, .null, 0), some (.iaload, 450, 0, .null, 0), some (.aload_n 0, 451, 0, .null, 0), some (.iload_n 3, 452, 0, .null, 0), some (.iconst 3, 453, 0, .int 3, 0), some (.iadd, 454, 0, .null, 0), some (.iaload, 455, 0, .null, 0), some (.invokevirtual 53, 458, 50, .null, 401), none, none, some (.aload_n 2, 459, 0, .null, 0), some (.aload_n 0, 460, 0, .null, 0), some (.iload_n 3, 461, 0, .null, 0), some (.iconst 1, 462, 0, .int 1, 0), some (.iadd, 463, 0, .null, 0), some (.iaload, 464, 0, .null, 0)],
  [some (.aload_n 0, 465, 0, .null, 0), some (.iload_n 3, 466, 0, .null, 0), some (.iconst 2, 467, 0, .int 2, 0), some (.iadd, 468, 0, .null, 0), some (.iaload, 469, 0, .null, 0), some (.aload_n 0, 470, 0, .null, 0), some (.iload_n 3, 471, 0, .null, 0), some (.iconst 3, 472, 0, .int 3, 0), some (.iadd, 473, 0, .null, 0), some (.iaload, 474, 0, .null, 0), some (.invokevirtual 56, 477, 148, .null, 937), none, none, some (.if_icmp .eq 785, 480, 1262, .null, 0), none, none],
  [some (.iconst 0, 481, 0, .int 0, 0), some (.ireturn, 482, 0, .null, 0), some (.aload_n 1, 483, 0, .null, 0), some (.aload_n 0, 484, 0, .null, 0), some (.iload_n 3, 485, 0, .null, 0), some (.iconst 1, 486, 0, .int 1, 0), some (.iadd, 487, 0, .null, 0), some (.iaload, 488, 0, .null, 0), some (.aload_n 0, 489, 0, .null, 0), some (.iload_n 3, 490, 0, .null, 0), some (.iconst 2, 491, 0, .int 2, 0), some (.iadd, 492, 0, .null, 0), some (.iaload, 493, 0, .null, 0), some (.aload_n 0, 494, 0, .null, 0), some (.iload_n 3, 495, 0, .null, 0), some (.iconst 3, 496, 0, .int 3, 0)],
  [some (.iadd, 497, 0, .null, 0), some (.iaload, 498, 0, .null, 0), some (.invokevirtual 57, 501, 51, .null, 451), none, none, some (.aload_n 2, 502, 0, .null, 0), some (.aload_n 0, 503, 0, .null, 0), some (.iload_n 3, 504, 0, .null, 0), some (.iconst 1, 505, 0, .int 1, 0), some (.iadd, 506, 0, .null, 0), some (.iaload, 507, 0, .null, 0), some (.aload_n 0, 508, 0, .null, 0), some (.iload_n 3, 509, 0, .null, 0), some (.iconst 2, 510, 0, .int 2, 0), some (.iadd, 511, 0, .null, 0), some (.iaload, 512, 0, .null, 0)],
  [some (.aload_n 0, 513, 0, .null, 0), some (.iload_n 3, 514, 0, .null, 0), some (.iconst 3, 515, 0, .int 3, 0), some (.iadd, 516, 0, .null, 0), some (.iaload, 517, 0, .null, 0), some (.invokevirtual 60, 520, 150, .null, 990), none, none, some (.if_icmp .eq 742, 523, 1262, .null, 0), none, none, some (.iconst 0, 524, 0, .int 0, 0), some (.ireturn, 525, 0, .null, 0), some (.aload_n 1, 526, 0, .null, 0), some (.aload_n 0, 527, 0, .null, 0), some (.iload_n 3, 528, 0, .null, 0)],
  [some (.iconst 1, 529, 0, .int 1, 0), some (.iadd, 530, 0, .null, 0), some (.iaload, 531, 0, .null, 0), some (.aload_n 0, 532, 0, .null, 0), some (.iload_n 3, 533, 0, .null, 0), some (.iconst 2, 534, 0, .int 2, 0), some (.iadd, 535, 0, .null, 0), some (.iaload, 536, 0, .null, 0), some (.invokevirtual 61, 539, 52, .null, 455), none, none, some (.aload_n 2, 540, 0, .null, 0), some (.aload_n 0, 541, 0, .null, 0), some (.iload_n 3, 542, 0, .null, 0), some (.iconst 1, 543, 0, .int 1, 0), some (.iadd, 544, 0, .null, 0)],
  [some (.iaload, 545, 0, .null, 0), some (.aload_n 0, 546, 0, .null, 0), some (.iload_n 3, 547, 0, .null, 0), some (.iconst 2, 548, 0, .int 2, 0), some (.iadd, 549, 0, .null, 0), some (.iaload, 550, 0, .null, 0), some (.invokevirtual 64, 553, 152, .null, 998), none, none, some (.if_icmp .eq 709, 556, 1262, .null, 0), none, none, some (.iconst 0, 557, 0, .int 0, 0), some (.ireturn, 558, 0, .null, 0), some (.aload_n 1, 559, 0, .null, 0), some (.aload_n 0, 560, 0, .null, 0)],
  [some (.iload_n 3, 561, 0, .null, 0), some (.iconst 1, 562, 0, .int 1, 0), some (.iadd, 563, 0, .null, 0), some (.iaload, 564, 0, .null, 0), some (.aload_n 0, 565, 0, .null, 0), some (.iload_n 3, 566, 0, .null, 0), some (.iconst 2, 567, 0, .int 2, 0), some (.iadd, 568, 0, .null, 0), some (.iaload, 569, 0, .null, 0), some (.invokevirtual 65, 572, 53, .null, 467), none, none, some (.aload_n 2, 573, 0, .null, 0), some (.aload_n 0, 574, 0, .null, 0), some (.iload_n 3, 575, 0, .null, 0), some (.iconst 1, 576, 0, .int 1, 0)],
  [some (.iadd, 577, 0, .null, 0), some (.iaload, 578, 0, .null, 0), some (.aload_n 0, 579, 0, .null, 0), some (.iload_n 3, 580, 0, .null, 0), some (.iconst 2, 581, 0, .int 2, 0), some (.iadd, 582, 0, .null, 0), some (.iaload, 583, 0, .null, 0), some (.invokevirtual 68, 586, 154, .null, 1006), none, none, some (.if_icmp .eq 676, 589, 1262, .null, 0), none, none, some (.iconst 0, 590, 0, .int 0, 0), some (.ireturn, 591, 0, .null, 0), some (.aload_n 1, 592, 0, .null, 0)],
  [some (.invokevirtual 69, 595, 54, .null, 479), none, none, some (.aload_n 2, 596, 0, .null, 0), some (.invokevirtual 72, 599, 156, .null, 1014), none, none, some (.if_icmp .eq 663, 602, 1262, .null, 0), none, none, some (.iconst 0, 603, 0, .int 0, 0), some (.ireturn, 604, 0, .null, 0), some (.aload_n 1, 605, 0, .null, 0), some (.aload_n 0, 606, 0, .null, 0), some (.iload_n 3, 607, 0, .null, 0), some (.iconst 1, 608, 0, .int 1, 0)],
  [some (.iadd, 609, 0, .null, 0), some (.iaload, 610, 0, .null, 0), some (.invokevirtual 73, 613, 55, .null, 483), none, none, some (.aload_n 2, 614, 0, .null, 0), some (.aload_n 0, 615, 0, .null, 0), some (.iload_n 3, 616, 0, .null, 0), some (.iconst 1, 617, 0, .int 1, 0), some (.iadd, 618, 0, .null, 0), some (.iaload, 619, 0, .null, 0), some (.invokevirtual 76, 622, 160, .null, 1022), none, none, some (.if_icmp .eq 640, 625, 1262, .null, 0), none],
  [none, some (.iconst 0, 626, 0, .int 0, 0), some (.ireturn, 627, 0, .null, 0), some (.aload_n 1, 628, 0, .null, 0), some (.invokevirtual 77, 631, 56, .null, 497), none, none, some (.aload_n 2, 632, 0, .null, 0), some (.invokevirtual 80, 635, 162, .null, 1041), none, none, some (.if_icmp .eq 627, 638, 1262, .null, 0), none, none, some (.iconst 0, 639, 0, .int 0, 0), some (.ireturn, 640, 0, .null, 0)],
  [some (.aload_n 1, 641, 0, .null, 0), some (.aload_n 0, 642, 0, .null, 0), some (.iload_n 3, 643, 0, .null, 0), some (.iconst 1, 644, 0, .int 1, 0), some (.iadd, 645, 0, .null, 0), some (.iaload, 646, 0, .null, 0), some (.aload_n 0, 647, 0, .null, 0), some (.iload_n 3, 648, 0, .null, 0), some (.iconst 2, 649, 0, .int 2, 0), some (.iadd, 650, 0, .null, 0), some (.iaload, 651, 0, .null, 0), some (.invokevirtual 81, 654, 57, .null, 501), none, none, some (.aload_n 2, 655, 0, .null, 0), some (.aload_n 0, 656, 0, .null, 0)],
  [some (.iload_n 3, 657, 0, .null, 0), some (.iconst 1, 658, 0, .int 1, 0), some (.iadd, 659, 0, .null, 0), some (.iaload, 660, 0, .null, 0), some (.aload_n 0, 661, 0, .null, 0), some (.iload_n 3, 662, 0, .null, 0), some (.iconst 2, 663, 0, .int 2, 0), some (.iadd, 664, 0, .null, 0), some (.iaload, 665, 0, .null, 0), some (.invokevirtual 84, 668, 167, .null, 1049), none, none, some (.if_icmp .eq 594, 671, 1262, .null, 0), none, none, some (.iconst 0, 672, 0, .int 0, 0)],
  [some (.ireturn, 673, 0, .null, 0), some (.aload_n 1, 674, 0, .null, 0), some (.aload_n 0, 675, 0, .null, 0), some (.iload_n 3, 676, 0, .null, 0), some (.iconst 1, 677, 0, .int 1, 0), some (.iadd, 678, 0, .null, 0), some (.iaload, 679, 0, .null, 0), some (.invokevirtual 85, 682, 58, .null, 523), none, none, some (.aload_n 2, 683, 0, .null, 0), some (.aload_n 0, 684, 0, .null, 0), some (.iload_n 3, 685, 0, .null, 0), some (.iconst 1, 686, 0, .int 1, 0), some (.iadd, 687, 0, .null, 0), some (.iaload, 688, 0, .null, 0)],
  [some (.invokevirtual 88, 691, 169, .null, 1061), none, none, some (.if_icmp .eq 571, 694, 1262, .null, 0), none, none, some (.iconst 0, 695, 0, .int 0, 0), some (.ireturn, 696, 0, .null, 0), some (.aload_n 1, 697, 0, .null, 0), some (.aload_n 0, 698, 0, .null, 0), some (.iload_n 3, 699, 0, .null, 0), some (.iconst 1, 700, 0, .int 1, 0), some (.iadd, 701, 0, .null, 0), some (.iaload, 702, 0, .null, 0), some (.invokevirtual 89, 705, 59, .null, 532), none],
  [none, some (.aload_n 2, 706, 0, .null, 0), some (.aload_n 0, 707, 0, .null, 0), some (.iload_n 3, 708, 0, .null, 0), some (.iconst 1, 709, 0, .int 1, 0), some (.iadd, 710, 0, .null, 0), some (.iaload, 711, 0, .null, 0), some (.invokevirtual 92, 714, 171, .null, 1069), none, none, some (.if_icmp .eq 548, 717, 1262, .null, 0), none, none, some (.iconst 0, 718, 0, .int 0, 0), some (.ireturn, 719, 0, .null, 0), some (.aload_n 1, 720, 0, .null, 0)],
  [some (.aload_n 0, 721, 0, .null, 0), some (.iload_n 3, 722, 0, .null, 0), some (.iconst 1, 723, 0, .int 1, 0), some (.iadd, 724, 0, .null, 0), some (.iaload, 725, 0, .null, 0), some (.invokevirtual 93, 728, 60, .null, 540), none, none, some (.aload_n 2, 729, 0, .null, 0), some (.aload_n 0, 730, 0, .null, 0), some (.iload_n 3, 731, 0, .null, 0), some (.iconst 1, 732, 0, .int 1, 0), some (.iadd, 733, 0, .null, 0), some (.iaload, 734, 0, .null, 0), some (.invokevirtual 96, 737, 174, .null, 1077), none],
  [none, some (.if_icmp .eq 525, 740, 1262, .null, 0), none, none, some (.iconst 0, 741, 0, .int 0, 0), some (.ireturn, 742, 0, .null, 0), some (.aload_n 1, 743, 0, .null, 0), some (.aload_n 0, 744, 0, .null, 0), some (.iload_n 3, 745, 0, .null, 0), some (.iconst 1, 746, 0, .int 1, 0), some (.iadd, 747, 0, .null, 0), some (.iaload, 748, 0, .null, 0), some (.aload_n 0, 749, 0, .null, 0), some (.iload_n 3, 750, 0, .null, 0), some (.iconst 2, 751, 0, .int 2, 0), some (.iadd, 752, 0, .null, 0)],
  [some (.iaload, 753, 0, .null, 0), some (.aload_n 0, 754, 0, .null, 0), some (.iload_n 3, 755, 0, .null, 0), some (.iconst 3, 756, 0, .int 3, 0), some (.iadd, 757, 0, .null, 0), some (.iaload, 758, 0, .null, 0), some (.invokevirtual 97, 761, 61, .null, 555), none, none, some (.aload_n 2, 762, 0, .null, 0), some (.aload_n 0, 763, 0, .null, 0), some (.iload_n 3, 764, 0, .null, 0), some (.iconst 1, 765, 0, .int 1, 0), some (.iadd, 766, 0, .null, 0), some (.iaload, 767, 0, .null, 0), some (.aload_n 0, 768, 0, .null, 0)],
  [some (.iload_n 3, 769, 0, .null, 0), some (.iconst 2, 770, 0, .int 2, 0), some (.iadd, 771, 0, .null, 0), some (.iaload, 772, 0, .null, 0), some (.aload_n 0, 773, 0, .null, 0), some (.iload_n 3, 774, 0, .null, 0), some (.iconst 3, 775, 0, .int 3, 0), some (.iadd, 776, 0, .null, 0), some (.iaload, 777, 0, .null, 0), some (.invokevirtual 100, 780, 175, .null, 1090), none, none, some (.if_icmp .eq 482, 783, 1262, .null, 0), none, none, some (.iconst 0, 784, 0, .int 0, 0)],
  [some (.ireturn, 785, 0, .null, 0), some (.aload_n 1, 786, 0, .null, 0), some (.invokevirtual 101, 789, 62, .null, 564), none, none, some (.aload_n 2, 790, 0, .null, 0), some (.invokevirtual 104, 793, 176, .null, 1095), none, none, some (.if_icmp .eq 469, 796, 1262, .null, 0), none, none, some (.iconst 0, 797, 0, .int 0, 0), some (.ireturn, 798, 0, .null, 0), some (.aload_n 1, 799, 0, .null, 0), some (.invokevirtual 105, 802, 63, .null, 568)],
  [none, none, some (.aload_n 2, 803, 0, .null, 0), some (.invokevirtual 108, 806, 179, .null, 1099), none, none, some (.if_icmp .eq 456, 809, 1262, .null, 0), none, none, some (.iconst 0, 810, 0, .int 0, 0), some (.ireturn, 811, 0, .null, 0), some (.aload_n 1, 812, 0, .null, 0), some (.aload_n 0, 813, 0, .null, 0), some (.iload_n 3, 814, 0, .null, 0), some (.iconst 1, 815, 0, .int 1, 0), some (.iadd, 816, 0, .null, 0)],
  [some (.iaload, 817, 0, .null, 0), some (.invokevirtual 109, 820, 64, .null, 577), none, none, some (.aload_n 2, 821, 0, .null, 0), some (.aload_n 0, 822, 0, .null, 0), some (.iload_n 3, 823, 0, .null, 0), some (.iconst 1, 824, 0, .int 1, 0), some (.iadd, 825, 0, .null, 0), some (.iaload, 826, 0, .null, 0), some (.invokevirtual 112, 829, 182, .null, 1111), none, none, some (.if_icmp .eq 433, 832, 1262, .null, 0), none, none],
  [some (.iconst 0, 833, 0, .int 0, 0), some (.ireturn, 834, 0, .null, 0), some (.aload_n 1, 835, 0, .null, 0), some (.aload_n 0, 836, 0, .null, 0), some (.iload_n 3, 837, 0, .null, 0), some (.iconst 1, 838, 0, .int 1, 0), some (.iadd, 839, 0, .null, 0), some (.iaload, 840, 0, .null, 0), some (.invokevirtual 113, 843, 65, .null, 589), none, none, some (.aload_n 2, 844, 0, .null, 0), some (.aload_n 0, 845, 0, .null, 0), some (.iload_n 3, 846, 0, .null, 0), some (.iconst 1, 847, 0, .int 1, 0), some (.iadd, 848, 0, .null, 0)],
  [some (.iaload, 849, 0, .null, 0), some (.invokevirtual 116, 852, 184, .null, 1124), none, none, some (.if_icmp .eq 410, 855, 1262, .null, 0), none, none, some (.iconst 0, 856, 0, .int 0, 0), some (.ireturn, 857, 0, .null, 0), some (.aload_n 1, 858, 0, .null, 0), some (.aload_n 0, 859, 0, .null, 0), some (.iload_n 3, 860, 0, .null, 0), some (.iconst 1, 861, 0, .int 1, 0), some (.iadd, 862, 0, .null, 0), some (.iaload, 863, 0, .null, 0), some (.invokevirtual 117, 866, 66, .null, 593)],
  [none, none, some (.aload_n 2, 867, 0, .null, 0), some (.aload_n 0, 868, 0, .null, 0), some (.iload_n 3, 869, 0, .null, 0), some (.iconst 1, 870, 0, .int 1, 0), some (.iadd, 871, 0, .null, 0), some (.iaload, 872, 0, .null, 0), some (.invokevirtual 120, 875, 187, .null, 1132), none, none, some (.if_icmp .eq 387, 878, 1262, .null, 0), none, none, some (.iconst 0, 879, 0, .int 0, 0), some (.ireturn, 880, 0, .null, 0)],
  [some (.aload_n 1, 881, 0, .null, 0), some (.aload_n 0, 882, 0, .null, 0), some (.iload_n 3, 883, 0, .null, 0), some (.iconst 1, 884, 0, .int 1, 0), some (.iadd, 885, 0, .null, 0), some (.iaload, 886, 0, .null, 0), some (.aload_n 0, 887, 0, .null, 0), some (.iload_n 3, 888, 0, .null, 0), some (.iconst 2, 889, 0, .int 2, 0), some (.iadd, 890, 0, .null, 0), some (.iaload, 891, 0, .null, 0), some (.aload_n 0, 892, 0, .null, 0), some (.iload_n 3, 893, 0, .null, 0), some (.iconst 3, 894, 0, .int 3, 0), some (.iadd, 895, 0, .null, 0), some (.iaload, 896, 0, .null, 0)],
  [some (.invokevirtual 121, 899, 67, .null, 602), none, none, some (.aload_n 2, 900, 0, .null, 0), some (.aload_n 0, 901, 0, .null, 0), some (.iload_n 3, 902, 0, .null, 0), some (.iconst 1, 903, 0, .int 1, 0), some (.iadd, 904, 0, .null, 0), some (.iaload, 905, 0, .null, 0), some (.aload_n 0, 906, 0, .null, 0), some (.iload_n 3, 907, 0, .null, 0), some (.iconst 2, 908, 0, .int 2, 0), some (.iadd, 909, 0, .null, 0), some (.iaload, 910, 0, .null, 0), some (.aload_n 0, 911, 0, .null, 0), some (.iload_n 3, 912, 0, .null, 0)],
  [some (.iconst 3, 913, 0, .int 3, 0), some (.iadd, 914, 0, .null, 0), some (.iaload, 915, 0, .null, 0), some (.invokevirtual 125, 918, 189, .null, 1144), none, none, some (.lcmp, 919, 0, .null, 0), some (.ifCond .eq 343, 922, 1262, .null, 0), none, none, some (.iconst 0, 923, 0, .int 0, 0), some (.ireturn, 924, 0, .null, 0), some (.aload_n 1, 925, 0, .null, 0), some (.aload_n 0, 926, 0, .null, 0), some (.iload_n 3, 927, 0, .null, 0), some (.iconst 1, 928, 0, .int 1, 0)],
  [some (.iadd, 929, 0, .null, 0), some (.iaload, 930, 0, .null, 0), some (.aload_n 0, 931, 0, .null, 0), some (.iload_n 3, 932, 0, .null, 0), some (.iconst 2, 933, 0, .int 2, 0), some (.iadd, 934, 0, .null, 0), some (.iaload, 935, 0, .null, 0), some (.aload_n 0, 936, 0, .null, 0), some (.iload_n 3, 937, 0, .null, 0), some (.iconst 3, 938, 0, .int 3, 0), some (.iadd, 939, 0, .null, 0), some (.iaload, 940, 0, .null, 0), some (.invokevirtual 126, 943, 68, .null, 612), none, none, some (.aload_n 2, 944, 0, .null, 0)],
  [some (.aload_n 0, 945, 0, .null, 0), some (.iload_n 3, 946, 0, .null, 0), some (.iconst 1, 947, 0, .int 1, 0), some (.iadd, 948, 0, .null, 0), some (.iaload, 949, 0, .null, 0), some (.aload_n 0, 950, 0, .null, 0), some (.iload_n 3, 951, 0, .null, 0), some (.iconst 2, 952, 0, .int 2, 0), some (.iadd, 953, 0, .null, 0), some (.iaload, 954, 0, .null, 0), some (.aload_n 0, 955, 0, .null, 0), some (.iload_n 3, 956, 0, .null, 0), some (.iconst 3, 957, 0, .int 3, 0), some (.iadd, 958, 0, .null, 0), some (.iaload, 959, 0, .null, 0), some (.invokevirtual 129, 962, 192, .null, 1160)],
  [none, none, some (.if_icmp .eq 300, 965, 1262, .null, 0), none, none, some (.iconst 0, 966, 0, .int 0, 0), some (.ireturn, 967, 0, .null, 0), some (.aload_n 1, 968, 0, .null, 0), some (.aload_n 0, 969, 0, .null, 0), some (.iload_n 3, 970, 0, .null, 0), some (.iconst 1, 971, 0, .int 1, 0), some (.iadd, 972, 0, .null, 0), some (.iaload, 973, 0, .null, 0), some (.aload_n 0, 974, 0, .null, 0), some (.iload_n 3, 975, 0, .null, 0), some (.iconst 2, 976, 0, .int 2, 0)],
  [some (.iadd, 977, 0, .null, 0), some (.iaload, 978, 0, .null, 0), some (.aload_n 0, 979, 0, .null, 0), some (.iload_n 3, 980, 0, .null, 0), some (.iconst 3, 981, 0, .int 3, 0), some (.iadd, 982, 0, .null, 0), some (.iaload, 983, 0, .null, 0), some (.invokevirtual 130, 986, 69, .null, 622), none, none, some (.aload_n 2, 987, 0, .null, 0), some (.aload_n 0, 988, 0, .null, 0), some (.iload_n 3, 989, 0, .null, 0), some (.iconst 1, 990, 0, .int 1, 0), some (.iadd, 991, 0, .null, 0), some (.iaload, 992, 0, .null, 0)],
  [some (.aload_n 0, 993, 0, .null, 0), some (.iload_n 3, 994, 0, .null, 0), some (.iconst 2, 995, 0, .int 2, 0), some (.iadd, 996, 0, .null, 0), some (.iaload, 997, 0, .null, 0), some (.aload_n 0, 998, 0, .null, 0), some (.iload_n 3, 999, 0, .null, 0), some (.iconst 3, 1000, 0, .int 3, 0), some (.iadd, 1001, 0, .null, 0), some (.iaload, 1002, 0, .null, 0), some (.invokevirtual 133, 1005, 108, .null, 805), none, none, some (.if_icmp .eq 257, 1008, 1262, .null, 0), none, none],
  [some (.iconst 0, 1009, 0, .int 0, 0), some (.ireturn, 1010, 0, .null, 0), some (.aload_n 1, 1011, 0, .null, 0), some (.aload_n 0, 1012, 0, .null, 0), some (.iload_n 3, 1013, 0, .null, 0), some (.iconst 1, 1014, 0, .int 1, 0), some (.iadd, 1015, 0, .null, 0), some (.iaload, 1016, 0, .null, 0), some (.invokevirtual 134, 1019, 70, .null, 630), none, none, some (.aload_n 2, 1020, 0, .null, 0), some (.aload_n 0, 1021, 0, .null, 0), some (.iload_n 3, 1022, 0, .null, 0), some (.iconst 1, 1023, 0, .int 1, 0), some (.iadd, 1024, 0, .null, 0)],
  [some (.iaload, 1025, 0, .null, 0), some (.invokevirtual 137, 1028, 109, .null, 821), none, none, some (.if_icmp .eq 234, 1031, 1262, .null, 0), none, none, some (.iconst 0, 1032, 0, .int 0, 0), some (.ireturn, 1033, 0, .null, 0), some (.aload_n 1, 1034, 0, .null, 0), some (.aload_n 0, 1035, 0, .null, 0), some (.iload_n 3, 1036, 0, .null, 0), some (.iconst 1, 1037, 0, .int 1, 0), some (.iadd, 1038, 0, .null, 0), some (.iaload, 1039, 0, .null, 0), some (.aload_n 0, 1040, 0, .null, 0)],
  [some (.iload_n 3, 1041, 0, .null, 0), some (.iconst 2, 1042, 0, .int 2, 0), some (.iadd, 1043, 0, .null, 0), some (.iaload, 1044, 0, .null, 0), some (.aload_n 0, 1045, 0, .null, 0), some (.iload_n 3, 1046, 0, .null, 0), some (.iconst 3, 1047, 0, .int 3, 0), some (.iadd, 1048, 0, .null, 0), some (.iaload, 1049, 0, .null, 0), some (.aload_n 0, 1050, 0, .null, 0), some (.iload_n 3, 1051, 0, .null, 0), some (.iconst 4, 1052, 0, .int 4, 0), some (.iadd, 1053, 0, .null, 0), some (.iaload, 1054, 0, .null, 0), some (.invokevirtual 138, 1057, 71, .null, 634), none],
  [none, some (.aload_n 2, 1058, 0, .null, 0), some (.aload_n 0, 1059, 0, .null, 0), some (.iload_n 3, 1060, 0, .null, 0), some (.iconst 1, 1061, 0, .int 1, 0), some (.iadd, 1062, 0, .null, 0), some (.iaload, 1063, 0, .null, 0), some (.aload_n 0, 1064, 0, .null, 0), some (.iload_n 3, 1065, 0, .null, 0), some (.iconst 2, 1066, 0, .int 2, 0), some (.iadd, 1067, 0, .null, 0), some (.iaload, 1068, 0, .null, 0), some (.aload_n 0, 1069, 0, .null, 0), some (.iload_n 3, 1070, 0, .null, 0), some (.iconst 3, 1071, 0, .int 3, 0), some (.iadd, 1072, 0, .null, 0)],
  [some (.iaload, 1073, 0, .null, 0), some (.aload_n 0, 1074, 0, .null, 0), some (.iload_n 3, 1075, 0, .null, 0), some (.iconst 4, 1076, 0, .int 4, 0), some (.iadd, 1077, 0, .null, 0), some (.iaload, 1078, 0, .null, 0), some (.invokevirtual 142, 1081, 112, .null, 825), none, none, some (.if_icmp .eq 181, 1084, 1262, .null, 0), none, none, some (.iconst 0, 1085, 0, .int 0, 0), some (.ireturn, 1086, 0, .null, 0), some (.aload_n 1, 1087, 0, .null, 0), some (.aload_n 0, 1088, 0, .null, 0)],
  [some (.iload_n 3, 1089, 0, .null, 0), some (.iconst 1, 1090, 0, .int 1, 0), some (.iadd, 1091, 0, .null, 0), some (.iaload, 1092, 0, .null, 0), some (.aload_n 0, 1093, 0, .null, 0), some (.iload_n 3, 1094, 0, .null, 0), some (.iconst 2, 1095, 0, .int 2, 0), some (.iadd, 1096, 0, .null, 0), some (.iaload, 1097, 0, .null, 0), some (.aload_n 0, 1098, 0, .null, 0), some (.iload_n 3, 1099, 0, .null, 0), some (.iconst 3, 1100, 0, .int 3, 0), some (.iadd, 1101, 0, .null, 0), some (.iaload, 1102, 0, .null, 0), some (.invokevirtual 143, 1105, 72, .null, 648), none],
  [none, some (.aload_n 2, 1106, 0, .null, 0), some (.aload_n 0, 1107, 0, .null, 0), some (.iload_n 3, 1108, 0, .null, 0), some (.iconst 1, 1109, 0, .int 1, 0), some (.iadd, 1110, 0, .null, 0), some (.iaload, 1111, 0, .null, 0), some (.aload_n 0, 1112, 0, .null, 0), some (.iload_n 3, 1113, 0, .null, 0), some (.iconst 2, 1114, 0, .int 2, 0), some (.iadd, 1115, 0, .null, 0), some (.iaload, 1116, 0, .null, 0), some (.aload_n 0, 1117, 0, .null, 0), some (.iload_n 3, 1118, 0, .null, 0), some (.iconst 3, 1119, 0, .int 3, 0), some (.iadd, 1120, 0, .null, 0)],
  [some (.iaload, 1121, 0, .null, 0), some (.invokevirtual 146, 1124, 113, .null, 836), none, none, some (.if_icmp .eq 138, 1127, 1262, .null, 0), none, none, some (.iconst 0, 1128, 0, .int 0, 0), some (.ireturn, 1129, 0, .null, 0), some (.aload_n 1, 1130, 0, .null, 0), some (.aload_n 0, 1131, 0, .null, 0), some (.iload_n 3, 1132, 0, .null, 0), some (.iconst 1, 1133, 0, .int 1, 0), some (.iadd, 1134, 0, .null, 0), some (.iaload, 1135, 0, .null, 0), some (.aload_n 0, 1136, 0, .null, 0)],
  [some (.iload_n 3, 1137, 0, .null, 0), some (.iconst 2, 1138, 0, .int 2, 0), some (.iadd, 1139, 0, .null, 0), some (.iaload, 1140, 0, .null, 0), some (.aload_n 0, 1141, 0, .null, 0), some (.iload_n 3, 1142, 0, .null, 0), some (.iconst 3, 1143, 0, .int 3, 0), some (.iadd, 1144, 0, .null, 0), some (.iaload, 1145, 0, .null, 0), some (.aload_n 0, 1146, 0, .null, 0), some (.iload_n 3, 1147, 0, .null, 0), some (.iconst 4, 1148, 0, .int 4, 0), some (.iadd, 1149, 0, .null, 0), some (.iaload, 1150, 0, .null, 0), some (.aload_n 0, 1151, 0, .null, 0), some (.iload_n 3, 1152, 0, .null, 0)],
  [some (.iconst 5, 1153, 0, .int 5, 0), some (.iadd, 1154, 0, .null, 0), some (.iaload, 1155, 0, .null, 0), some (.invokevirtual 147, 1158, 73, .null, 653), none, none, some (.aload_n 2, 1159, 0, .null, 0), some (.aload_n 0, 1160, 0, .null, 0), some (.iload_n 3, 1161, 0, .null, 0), some (.iconst 1, 1162, 0, .int 1, 0), some (.iadd, 1163, 0, .null, 0), some (.iaload, 1164, 0, .null, 0), some (.aload_n 0, 1165, 0, .null, 0), some (.iload_n 3, 1166, 0, .null, 0), some (.iconst 2, 1167, 0, .int 2, 0), some (.iadd, 1168, 0, .null, 0)],
  [some (.iaload, 1169, 0, .null, 0), some (.aload_n 0, 1170, 0, .null, 0), some (.iload_n 3, 1171, 0, .null, 0), some (.iconst 3, 1172, 0, .int 3, 0), some (.iadd, 1173, 0, .null, 0), some (.iaload, 1174, 0, .null, 0), some (.aload_n 0, 1175, 0, .null, 0), some (.iload_n 3, 1176, 0, .null, 0), some (.iconst 4, 1177, 0, .int 4, 0), some (.iadd, 1178, 0, .null, 0), some (.iaload, 1179, 0, .null, 0), some (.aload_n 0, 1180, 0, .null, 0), some (.iload_n 3, 1181, 0, .null, 0), some (.iconst 5, 1182, 0, .int 5, 0), some (.iadd, 1183, 0, .null, 0), some (.iaload, 1184, 0, .null, 0)],
  [some (.invokevirtual 151, 1187, 114, .null, 841), none, none, some (.if_icmp .eq 75, 1190, 1262, .null, 0), none, none, some (.iconst 0, 1191, 0, .int 0, 0), some (.ireturn, 1192, 0, .null, 0), some (.aload_n 1, 1193, 0, .null, 0), some (.aload_n 0, 1194, 0, .null, 0), some (.iload_n 3, 1195, 0, .null, 0), some (.iconst 1, 1196, 0, .int 1, 0), some (.iadd, 1197, 0, .null, 0), some (.iaload, 1198, 0, .null, 0), some (.aload_n 0, 1199, 0, .null, 0), some (.iload_n 3, 1200, 0, .null, 0)],
  [some (.iconst 2, 1201, 0, .int 2, 0), some (.iadd, 1202, 0, .null, 0), some (.iaload, 1203, 0, .null, 0), some (.invokevirtual 152, 1206, 74, .null, 664), none, none, some (.aload_n 2, 1207, 0, .null, 0), some (.aload_n 0, 1208, 0, .null, 0), some (.iload_n 3, 1209, 0, .null, 0), some (.iconst 1, 1210, 0, .int 1, 0), some (.iadd, 1211, 0, .null, 0), some (.iaload, 1212, 0, .null, 0), some (.aload_n 0, 1213, 0, .null, 0), some (.iload_n 3, 1214, 0, .null, 0), some (.iconst 2, 1215, 0, .int 2, 0), some (.iadd, 1216, 0, .null, 0)],
  [some (.iaload, 1217, 0, .null, 0), some (.invokevirtual 155, 1220, 193, .null, 1177), none, none, some (.if_icmp .eq 42, 1223, 1262, .null, 0), none, none, some (.iconst 0, 1224, 0, .int 0, 0), some (.ireturn, 1225, 0, .null, 0), some (.aload_n 1, 1226, 0, .null, 0), some (.aload_n 0, 1227, 0, .null, 0), some (.iload_n 3, 1228, 0, .null, 0), some (.iconst 1, 1229, 0, .int 1, 0), some (.iadd, 1230, 0, .null, 0), some (.iaload, 1231, 0, .null, 0), some (.invokevirtual 156, 1234, 75, .null, 668)],
  [none, none, some (.aload_n 2, 1235, 0, .null, 0), some (.aload_n 0, 1236, 0, .null, 0), some (.iload_n 3, 1237, 0, .null, 0), some (.iconst 1, 1238, 0, .int 1, 0), some (.iadd, 1239, 0, .null, 0), some (.iaload, 1240, 0, .null, 0), some (.invokevirtual 159, 1243, 194, .null, 1181), none, none, some (.if_icmp .eq 19, 1246, 1262, .null, 0), none, none, some (.iconst 0, 1247, 0, .int 0, 0), some (.ireturn, 1248, 0, .null, 0)],
  [some (.aload_n 1, 1249, 0, .null, 0), some (.invokevirtual 160, 1252, 76, .null, 672), none, none, some (.aload_n 2, 1253, 0, .null, 0), some (.invokevirtual 164, 1256, 198, .null, 1189), none, none, some (.lcmp, 1257, 0, .null, 0), some (.ifCond .eq 5, 1260, 1262, .null, 0), none, none, some (.iconst 0, 1261, 0, .int 0, 0), some (.ireturn, 1262, 0, .null, 0), some (.iinc 3 6, 1265, 0, .int 6, 0), none],
  [none, some (.goto (-1247), 1268, 18, .null, 0), none, none, some (.iconst 1, 1269, 0, .int 1, 0), some (.ireturn, 1270, 0, .null, 0)]])
def iPr0 : List iMeth := [mX0_init, mX0_run, mX0_beginMinute, mX0_move, mX0_putIn, mX0_lierIn, mX0_afloatOrLying, mX0_minuteOut, mX0_minutesIn, mX0_minutesOfAll, mX0_outBits, mX0_trace, mX1_init, mX1_mayBe, mX1_append, mX1_bits]
def iPr1 : List iMeth := [mX1_mark, mX2_init, mX2_isLost, mX2_renew, mX2_findingAt, mX2_hasRun, mX2_put, mX3_init, mX3_append, mX3_fit, mX4_init, mX4_append, mX5_init, mX5_tellSlopes, mX5_tellFeeders, mX5_tellFigures]
def iPr2 : List iMeth := [mX5_tellLogs, mX5_faultOfLogs, mX5_mayStand, mX5_logBits, mX6_init, mX6_pour, mX6_together, mX6_dryBits, mX7_init, mX7_type, mX7_wipe, mX7_undo, mX7_fault, mX7_span, mX7_log, mX7_event]
def iPr3 : List iMeth := [mX7_back, mX7_read, mX7_flume, mX7_at, mX7_all, mX7_out, mX7_jam, mX7_left, mX7_worst, mX7_send, mX7_steep, mX7_fill, mX7_spare, mX7_seen, mX7_forget, mX7_never]
def iPr4 : List iMeth := [mX7_draughts, mX7_grade, mX7_ask, mX7_chance, mX7_seasons, mX7_sheet, mX7_lose, mX7_lay, mX7_get, mX7_copy, mX7_write, mX7_count, mX7_digest, mX7_within, mX7_bitAt, mX7_isLog]
def iPr5 : List iMeth := [mX7_found, mX7_tellAgain, mX7_unsettle, mX7_settle, mX7_startSearch, mX7_weigh, mX7_searchSend, mX7_searchSteep, mX7_searchFill, mX7_sparedEvents, mX7_outcome, mX7_sixteenthsOut, mX7_traceDraughts, mX7_mostAlike, mX7_mixSpan, mX7_mixLogMinutes]
def iPr6 : List iMeth := [mX7_mixLogPlans, mX7_mixWhole, mX8_init, mX8_in, mX8_no, mX8_isTwo, mX8_isIn, mX8_lesser, mX8_greater, mX8_part, mX8_finds, mX8_isSheet, mX8_sheet, mX8_lose, mX8_lacks, mX8_cut]
def iPr7 : List iMeth := [mX8_lay, mX8_get, mX8_copy, mX8_isText, mX8_type, mX8_wipe, mX8_undo, mX8_figureOf, mX8_gentle, mX8_readsSlopes, mX8_dries, mX8_readsFeeders, mX8_logOf, mX8_readsLogs, mX8_readsText, mX8_fault]
def iPr8 : List iMeth := [mX8_isSpan, mX8_isMinute, mX8_isLog, mX8_spanBy, mX8_span, mX8_log, mX8_event, mX8_back, mX8_read, mX8_told, mX8_flows, mX8_lies, mX8_whoBut, mX8_floats, mX8_logsGo, mX8_passes]
def iPr9 : List iMeth := [mX8_lives, mX8_find, mX8_whoBy, mX8_flumeBy, mX8_flume, mX8_atBy, mX8_at, mX8_allBy, mX8_all, mX8_outBy, mX8_out, mX8_jamNow, mX8_jam, mX8_dryNow, mX8_lateNow, mX8_leftBy]
def iPr10 : List iMeth := [mX8_left, mX8_worstNow, mX8_worst, mX8_manyOut, mX8_allLain, mX8_allHalts, mX8_sendOf, mX8_send, mX8_steepBy, mX8_steep, mX8_fillBy, mX8_fill, mX8_isSpared, mX8_spareBy, mX8_spare, mX8_seen]
def iPr11 : List iMeth := [mX8_forget, mX8_isSeen, mX8_neverNow, mX8_never, mX8_rowOf, mX8_draughtsOf, mX8_draughts, mX8_gradeOf, mX8_grade, mX8_alike, mX8_askOf, mX8_ask, mX8_chanceOf, mX8_chance, mX8_lot, mX8_seasonsOf]
def iPr12 : List iMeth := [mX8_seasons, mX8_write, mX8_count, mX8_tellsSpan, mX8_tellsMinute, mX8_tellsLog, mX8_digest, mJ6_bitCount_0f7a4]
def iProgL : List (List iMeth) := [iPr0, iPr1, iPr2, iPr3, iPr4, iPr5, iPr6, iPr7, iPr8, iPr9, iPr10, iPr11, iPr12]
def iProg (n : Nat) : Option iMeth := match iLg iProgL (n / 16) with
  | some r => iLg r (n % 16)
  | none => none
end
section
/-! THE INTERPRETER IS SOUND: what it answers, the machine answers. -/
def iv (B b dg : Nat) : Value → Value
  | .ref k => .ref (B + k)
  | .retAddr 0 => .ref b
  | .retAddr (_ + 1) => .ref dg
  | v => v
theorem iv_cat (B b dg : Nat) (v : Value) : (iv B b dg v).category = v.category := by
  cases v with
  | retAddr n => cases n <;> rfl
  | _ => rfl
def iE (B b dg : Nat) (tc : Nat → ClassId) : va_E → va_E
  | .inl (t, n, .inl f) => .inl (tc t, n, .inl f)
  | .inl (t, n, .inr (.inl f)) => .inl (tc t, n, .inr (.inl f))
  | .inl (t, n, .inr (.inr (.inl f))) => .inl (tc t, n, .inr (.inr (.inl f)))
  | .inl (t, n, .inr (.inr (.inr (.inl f)))) => .inl (tc t, n, .inr (.inr (.inr (.inl f))))
  | .inl (t, n, .inr (.inr (.inr (.inr f)))) => .inl (tc t, n, .inr (.inr (.inr (.inr (fun i => (f i).map (B + ·))))))
  | .inr (ci, fs) => .inr (ci, fs.map (iv B b dg))
def iw (B b dg : Nat) (tc : Nat → ClassId) (h : List va_E) : va_W := h.mapIdx (fun k e => (B + k, iE B b dg tc e))
theorem iw_get (B b dg : Nat) (tc : Nat → ClassId) (h : List va_E) (k : Nat) : (iw B b dg tc h)[k]? = (h[k]?).map (fun e => (B + k, iE B b dg tc e)) := by
  simp [iw, List.getElem?_mapIdx]
theorem iw_at {B b dg : Nat} {tc : Nat → ClassId} {h : List va_E} {k : Nat} {e : va_E} (hk : iLg h k = some e) : (iw B b dg tc h)[k]? = some (B + k, iE B b dg tc e) := by
  rw [iLg_eq] at hk
  rw [iw_get, hk]; rfl
theorem iw_set {B b dg : Nat} {tc : Nat → ClassId} {h : List va_E} {k : Nat} (e : va_E) : (iw B b dg tc h).set k (B + k, iE B b dg tc e) = iw B b dg tc (h.set k e) := by
  apply List.ext_getElem?
  intro j
  rw [iw_get, List.getElem?_set, List.getElem?_set, iw_get]
  by_cases hj : k = j
  · subst hj
    by_cases hl : k < h.length
    · simp [hl, iw]
    · simp [hl, iw]
  · simp [hj]
theorem iw_push {B b dg : Nat} {tc : Nat → ClassId} {h : List va_E} (e : va_E) : iw B b dg tc h ++ [(B + h.length, iE B b dg tc e)] = iw B b dg tc (h ++ [e]) := by
  simp [iw, List.mapIdx_append]
theorem iw_D {B b dg : Nat} {tc : Nat → ClassId} {h : List va_E} : va_D (fun q => B ≤ q) (iw B b dg tc h) := by
  refine ⟨fun i j p q hi hj hpq => ?_, fun k q hk => ?_⟩
  · rw [iw_get] at hi hj
    cases h1 : h[i]? with
    | none => rw [h1] at hi; cases hi
    | some e1 =>
      cases h2 : h[j]? with
      | none => rw [h2] at hj; cases hj
      | some e2 =>
        rw [h1] at hi; rw [h2] at hj
        cases hi; cases hj
        dsimp only at hpq
        omega
  · rw [iw_get] at hk
    cases h1 : h[k]? with
    | none => rw [h1] at hk; cases hk
    | some e1 => rw [h1] at hk; cases hk; exact Nat.le_add_right _ _
def iSz : va_E → Nat
  | .inl a => a.2.1
  | .inr o => o.2.length
def iSl (h : List va_E) : Nat := (h.map iSz).sum
theorem iSl_push (h : List va_E) (e : va_E) : iSl (h ++ [e]) = iSl h + iSz e := by simp [iSl]
theorem iSl_set {h : List va_E} {k : Nat} {e0 e : va_E} (hk : iLg h k = some e0) (hs : iSz e = iSz e0) : iSl (h.set k e) = iSl h := by
  have : (h.set k e).map iSz = h.map iSz := by
    rw [iLg_eq] at hk
    apply List.ext_getElem?
    intro j
    rw [List.getElem?_map, List.getElem?_map, List.getElem?_set]
    by_cases hj : k = j
    · subst hj
      rw [hk]
      have hl := (List.getElem?_eq_some_iff.mp hk).1
      simp [hl, hs]
    · simp [hj]
  unfold iSl
  rw [this]
def iL (B b dg : Nat) (L : List (Nat × Value)) : List (Nat × Value) := L.map (fun q => (q.1, iv B b dg q.2))
theorem iLget_has {B b dg nL : Nat} {ls : Array Slot} {L : List (Nat × Value)} {i : Nat} {v : Value} (hl : lv_has ls nL (iL B b dg L)) (h : iLget L i = some v) : ls[i]? = some (.val (iv B b dg v)) := by
  have hm : (i, v) ∈ L := by
    clear hl
    induction L with
    | nil => cases h
    | cons q L ih =>
      obtain ⟨j, w⟩ := q
      simp only [iLget] at h
      by_cases hj : j = i
      · rw [if_pos hj] at h
        cases h; subst hj
        exact List.mem_cons_self
      · rw [if_neg hj] at h
        exact List.mem_cons_of_mem _ (ih h)
  exact hl.2.2 (i, iv B b dg v) (List.mem_map.mpr ⟨(i, v), hm, rfl⟩)
theorem iL_p1 {B b dg : Nat} (i : Nat) (v : Value) (L : List (Nat × Value)) : (i, iv B b dg v) :: (iL B b dg L).filter (fun q => !(q.1 == i) && !(q.1 + 1 == i && q.2.category == 2)) = iL B b dg ((i, v) :: L.filter (iP1 i)) := by
  simp only [iL, List.map_cons, List.filter_map, List.cons.injEq, true_and]
  congr 1
  apply List.filter_congr
  intro q _
  simp [iP1, iv_cat]
theorem iL_p2 {B b dg : Nat} (i : Nat) (v : Value) (L : List (Nat × Value)) : (i, iv B b dg v) :: (iL B b dg L).filter (fun q => !(q.1 == i) && (!(q.1 == i + 1) && !(q.1 + 1 == i && q.2.category == 2))) = iL B b dg ((i, v) :: L.filter (iP2 i)) := by
  simp only [iL, List.map_cons, List.filter_map, List.cons.injEq, true_and]
  congr 1
  apply List.filter_congr
  intro q _
  simp [iP2, iv_cat]
theorem iCat_eq (B b dg : Nat) (S : List Value) : ((S.map (iv B b dg)).map fun v => v.category).sum = iCat S := by
  induction S with
  | nil => rfl
  | cons v S ih => simp only [List.map_cons, List.sum_cons, ih, iv_cat, iCat]
def dgF (j : Nat) : Int32 := if j = 0 then 0 else if j = 1 then 6 else if j = 2 then 13 else 23
def iExt (Ls : Nat) (xs : Nat → Int32) : iExtT := fun k => match k with
  | 0 => some (Ls, xs)
  | 1 => some (4, dgF)
  | _ => none
def iTys (tc : Nat → ClassId) : List (ClassId × FieldType) := [(tc 0, .int), (tc 1, .long), (tc 2, .object RX4), (tc 3, .object RX2)]
/-- what stands outside the world and isn't written: the script, the table of four minutes -/
def iG (B b dg Ls : Nat) (xs : Nat → Int32) (tc : Nat → ClassId) (dC : Nat → ClassId) (dI : Nat → Nat → Nat) (U : State) (H : Heap) : Prop := va_K (dC, dI) vwCl (iTys tc) U ∧ (b < B ∧ va_X b Ls xs U H) ∧ va_T .int dg 4 (fun j => .int (dgF j)) (fun q => B ≤ q) U H ∧ va_Z "LogFlume" "DIGEST_MINUTES" "[I" (.ref dg) (fun q => B ≤ q) U H
def iAt (p : Program) (l : Launch) (e : Env) (R : Room) (s : State) (m : MethodId) (args : Array Value) (below : List Frame) (meth : Method) (cd : Code) (Q : State → Prop) (B b dg n0 z0 nL : Nat) (tc : Nat → ClassId) (dC : Nat → ClassId) (dI : Nat → Nat → Nat) (c : iCfg) : Prop :=
  ∀ (H : Heap) (locs : List Loc) (cells slots : Nat) (ls : Array Slot), n0 + cells = c.2.2.2.length → z0 + slots = iSl c.2.2.2 → lv_has ls nL (iL B b dg c.2.1) → va_P (dC, dI) vwCl (iw B b dg tc c.2.2.2) H → va_S (fun q => B ≤ q) s.heap H locs →
    W p l e R s m args below meth cd H locs cells slots Q (F0 m c.1 ls (c.2.2.1.map (iv B b dg)))
def iUse : Cond → Bool
  | .privateMethod _ => false
  | .laysStatic _ _ _ => false
  | _ => true
section ISound
variable {p : Program} {l : Launch} {e : Env} {R : Room} {s : State} {m : MethodId} {args : Array Value} {below : List Frame} {meth : Method} {cd : Code} {Q : State → Prop} {cc : ByteArray} {B b dg n0 z0 nL Ls : Nat} {xs : Nat → Int32} {tc : Nat → ClassId} {dC : Nat → ClassId} {dI : Nat → Nat → Nat} {pc nx : Nat} {L : List (Nat × Value)} {S : List Value} {h : List va_E} {c' : iCfg}

theorem is_iload (hx : p.tables.exec = Jvm.exec) (hb : cd.code = cc) {i : Nat} (hd : decode cc pc = .ok (.iload i, 2)) (hs : iLdI i (pc + 2) L S h = some (.inl c')) (k : iAt p l e R s m args below meth cd Q B b dg n0 z0 nL tc dC dI c') : iAt p l e R s m args below meth cd Q B b dg n0 z0 nL tc dC dI (pc, L, S, h) := by
  unfold iLdI at hs
  split at hs <;> first | (cases hs; done) | skip
  all_goals (rename_i hg; cases hs; intro H locs cells slots ls h1 h2 hl hP hS; exact lv_iload hx hb hd (iLget_has hl hg) (k H locs cells slots ls h1 h2 hl hP hS))
theorem is_iload_n (hx : p.tables.exec = Jvm.exec) (hb : cd.code = cc) {i : Fin 4} (hd : decode cc pc = .ok (.iload_n i, 1)) (hs : iLdI i.val (pc + 1) L S h = some (.inl c')) (k : iAt p l e R s m args below meth cd Q B b dg n0 z0 nL tc dC dI c') : iAt p l e R s m args below meth cd Q B b dg n0 z0 nL tc dC dI (pc, L, S, h) := by
  unfold iLdI at hs
  split at hs <;> first | (cases hs; done) | skip
  all_goals (rename_i hg; cases hs; intro H locs cells slots ls h1 h2 hl hP hS; exact lv_iload_n hx hb hd rfl (iLget_has hl hg) (k H locs cells slots ls h1 h2 hl hP hS))
theorem is_lload (hx : p.tables.exec = Jvm.exec) (hb : cd.code = cc) {i : Nat} (hd : decode cc pc = .ok (.lload i, 2)) (hs : iLdL i (pc + 2) L S h = some (.inl c')) (k : iAt p l e R s m args below meth cd Q B b dg n0 z0 nL tc dC dI c') : iAt p l e R s m args below meth cd Q B b dg n0 z0 nL tc dC dI (pc, L, S, h) := by
  unfold iLdL at hs
  split at hs <;> first | (cases hs; done) | skip
  all_goals (rename_i hg; cases hs; intro H locs cells slots ls h1 h2 hl hP hS; exact lv_lload hx hb hd (iLget_has hl hg) (k H locs cells slots ls h1 h2 hl hP hS))
theorem is_lload_n (hx : p.tables.exec = Jvm.exec) (hb : cd.code = cc) {i : Fin 4} (hd : decode cc pc = .ok (.lload_n i, 1)) (hs : iLdL i.val (pc + 1) L S h = some (.inl c')) (k : iAt p l e R s m args below meth cd Q B b dg n0 z0 nL tc dC dI c') : iAt p l e R s m args below meth cd Q B b dg n0 z0 nL tc dC dI (pc, L, S, h) := by
  unfold iLdL at hs
  split at hs <;> first | (cases hs; done) | skip
  all_goals (rename_i hg; cases hs; intro H locs cells slots ls h1 h2 hl hP hS; exact lv_lload_n hx hb hd rfl (iLget_has hl hg) (k H locs cells slots ls h1 h2 hl hP hS))
theorem is_aload (hx : p.tables.exec = Jvm.exec) (hb : cd.code = cc) {i : Nat} (hd : decode cc pc = .ok (.aload i, 2)) (hs : iLdA i (pc + 2) L S h = some (.inl c')) (k : iAt p l e R s m args below meth cd Q B b dg n0 z0 nL tc dC dI c') : iAt p l e R s m args below meth cd Q B b dg n0 z0 nL tc dC dI (pc, L, S, h) := by
  unfold iLdA at hs
  split at hs <;> first | (cases hs; done) | skip
  all_goals (rename_i hg; cases hs; intro H locs cells slots ls h1 h2 hl hP hS; exact lv_aload hx hb hd (iLget_has hl hg) (k H locs cells slots ls h1 h2 hl hP hS))
theorem is_aload_n (hx : p.tables.exec = Jvm.exec) (hb : cd.code = cc) {i : Fin 4} (hd : decode cc pc = .ok (.aload_n i, 1)) (hs : iLdA i.val (pc + 1) L S h = some (.inl c')) (k : iAt p l e R s m args below meth cd Q B b dg n0 z0 nL tc dC dI c') : iAt p l e R s m args below meth cd Q B b dg n0 z0 nL tc dC dI (pc, L, S, h) := by
  unfold iLdA at hs
  split at hs <;> first | (cases hs; done) | skip
  all_goals (rename_i hg; cases hs; intro H locs cells slots ls h1 h2 hl hP hS; exact lv_aload_n hx hb hd rfl (iLget_has hl hg) (k H locs cells slots ls h1 h2 hl hP hS))
theorem is_istore (hx : p.tables.exec = Jvm.exec) (hb : cd.code = cc) {i : Nat} (hn : i < nL) (hd : decode cc pc = .ok (.istore i, 2)) (hs : iStI i (pc + 2) L S h = some (.inl c')) (k : iAt p l e R s m args below meth cd Q B b dg n0 z0 nL tc dC dI c') : iAt p l e R s m args below meth cd Q B b dg n0 z0 nL tc dC dI (pc, L, S, h) := by
  unfold iStI at hs
  split at hs
  · rw [iLfl_eq] at hs
    rename_i x S'
    cases hs
    intro H locs cells slots ls h1 h2 hl hP hS
    exact lv_istore hx hb hd hl hn (iL_p1 i (.int x) L) (fun ls' hl' => k H locs cells slots ls' h1 h2 hl' hP hS)
  · cases hs
theorem is_istore_n (hx : p.tables.exec = Jvm.exec) (hb : cd.code = cc) {i : Fin 4} (hn : i.val < nL) (hd : decode cc pc = .ok (.istore_n i, 1)) (hs : iStI i.val (pc + 1) L S h = some (.inl c')) (k : iAt p l e R s m args below meth cd Q B b dg n0 z0 nL tc dC dI c') : iAt p l e R s m args below meth cd Q B b dg n0 z0 nL tc dC dI (pc, L, S, h) := by
  unfold iStI at hs
  split at hs
  · rw [iLfl_eq] at hs
    rename_i x S'
    cases hs
    intro H locs cells slots ls h1 h2 hl hP hS
    exact lv_istore_n hx hb hd rfl hl hn (iL_p1 i.val (.int x) L) (fun ls' hl' => k H locs cells slots ls' h1 h2 hl' hP hS)
  · cases hs
theorem is_lstore (hx : p.tables.exec = Jvm.exec) (hb : cd.code = cc) {i : Nat} (hn : i + 1 < nL) (hd : decode cc pc = .ok (.lstore i, 2)) (hs : iStL i (pc + 2) L S h = some (.inl c')) (k : iAt p l e R s m args below meth cd Q B b dg n0 z0 nL tc dC dI c') : iAt p l e R s m args below meth cd Q B b dg n0 z0 nL tc dC dI (pc, L, S, h) := by
  unfold iStL at hs
  split at hs
  · rw [iLfl_eq] at hs
    rename_i x S'
    cases hs
    intro H locs cells slots ls h1 h2 hl hP hS
    exact lv_lstore hx hb hd hl hn (iL_p2 i (.long x) L) (fun ls' hl' => k H locs cells slots ls' h1 h2 hl' hP hS)
  · cases hs
theorem is_lstore_n (hx : p.tables.exec = Jvm.exec) (hb : cd.code = cc) {i : Fin 4} (hn : i.val + 1 < nL) (hd : decode cc pc = .ok (.lstore_n i, 1)) (hs : iStL i.val (pc + 1) L S h = some (.inl c')) (k : iAt p l e R s m args below meth cd Q B b dg n0 z0 nL tc dC dI c') : iAt p l e R s m args below meth cd Q B b dg n0 z0 nL tc dC dI (pc, L, S, h) := by
  unfold iStL at hs
  split at hs
  · rw [iLfl_eq] at hs
    rename_i x S'
    cases hs
    intro H locs cells slots ls h1 h2 hl hP hS
    exact lv_lstore_n hx hb hd rfl hl hn (iL_p2 i.val (.long x) L) (fun ls' hl' => k H locs cells slots ls' h1 h2 hl' hP hS)
  · cases hs
theorem is_astore (hx : p.tables.exec = Jvm.exec) (hb : cd.code = cc) {i : Nat} (hn : i < nL) (hd : decode cc pc = .ok (.astore i, 2)) (hs : iStA i (pc + 2) L S h = some (.inl c')) (k : iAt p l e R s m args below meth cd Q B b dg n0 z0 nL tc dC dI c') : iAt p l e R s m args below meth cd Q B b dg n0 z0 nL tc dC dI (pc, L, S, h) := by
  unfold iStA at hs
  split at hs
  · rw [iLfl_eq] at hs
    rename_i x S'
    cases hs
    intro H locs cells slots ls h1 h2 hl hP hS
    exact lv_astore hx hb hd hl hn (iL_p1 i (.ref x) L) (fun ls' hl' => k H locs cells slots ls' h1 h2 hl' hP hS)
  · rw [iLfl_eq] at hs
    rename_i S'
    cases hs
    intro H locs cells slots ls h1 h2 hl hP hS
    exact lv_astore hx hb hd hl hn (iL_p1 i (.retAddr 0) L) (fun ls' hl' => k H locs cells slots ls' h1 h2 hl' hP hS)
  · rw [iLfl_eq] at hs
    rename_i S'
    cases hs
    intro H locs cells slots ls h1 h2 hl hP hS
    exact lv_astore hx hb hd hl hn (iL_p1 i (.retAddr 1) L) (fun ls' hl' => k H locs cells slots ls' h1 h2 hl' hP hS)
  · cases hs
theorem is_astore_n (hx : p.tables.exec = Jvm.exec) (hb : cd.code = cc) {i : Fin 4} (hn : i.val < nL) (hd : decode cc pc = .ok (.astore_n i, 1)) (hs : iStA i.val (pc + 1) L S h = some (.inl c')) (k : iAt p l e R s m args below meth cd Q B b dg n0 z0 nL tc dC dI c') : iAt p l e R s m args below meth cd Q B b dg n0 z0 nL tc dC dI (pc, L, S, h) := by
  unfold iStA at hs
  split at hs
  · rw [iLfl_eq] at hs
    rename_i x S'
    cases hs
    intro H locs cells slots ls h1 h2 hl hP hS
    exact lv_astore_n hx hb hd rfl hl hn (iL_p1 i.val (.ref x) L) (fun ls' hl' => k H locs cells slots ls' h1 h2 hl' hP hS)
  · rw [iLfl_eq] at hs
    rename_i S'
    cases hs
    intro H locs cells slots ls h1 h2 hl hP hS
    exact lv_astore_n hx hb hd rfl hl hn (iL_p1 i.val (.retAddr 0) L) (fun ls' hl' => k H locs cells slots ls' h1 h2 hl' hP hS)
  · rw [iLfl_eq] at hs
    rename_i S'
    cases hs
    intro H locs cells slots ls h1 h2 hl hP hS
    exact lv_astore_n hx hb hd rfl hl hn (iL_p1 i.val (.retAddr 1) L) (fun ls' hl' => k H locs cells slots ls' h1 h2 hl' hP hS)
  · cases hs
theorem is_iadd (hx : p.tables.exec = Jvm.exec) (hb : cd.code = cc) (hd : decode cc pc = .ok (.iadd, 1)) (hs : iBin (fun x y => x + y) (pc + 1) L S h = some (.inl c')) (k : iAt p l e R s m args below meth cd Q B b dg n0 z0 nL tc dC dI c') : iAt p l e R s m args below meth cd Q B b dg n0 z0 nL tc dC dI (pc, L, S, h) := by
  unfold iBin at hs
  split at hs
  · cases hs
    intro H locs cells slots ls h1 h2 hl hP hS
    exact lv_iadd hx hb hd (k H locs cells slots ls h1 h2 hl hP hS)
  · cases hs
theorem is_isub (hx : p.tables.exec = Jvm.exec) (hb : cd.code = cc) (hd : decode cc pc = .ok (.isub, 1)) (hs : iBin (fun x y => x - y) (pc + 1) L S h = some (.inl c')) (k : iAt p l e R s m args below meth cd Q B b dg n0 z0 nL tc dC dI c') : iAt p l e R s m args below meth cd Q B b dg n0 z0 nL tc dC dI (pc, L, S, h) := by
  unfold iBin at hs
  split at hs
  · cases hs
    intro H locs cells slots ls h1 h2 hl hP hS
    exact lv_isub hx hb hd (k H locs cells slots ls h1 h2 hl hP hS)
  · cases hs
theorem is_imul (hx : p.tables.exec = Jvm.exec) (hb : cd.code = cc) (hd : decode cc pc = .ok (.imul, 1)) (hs : iBin (fun x y => x * y) (pc + 1) L S h = some (.inl c')) (k : iAt p l e R s m args below meth cd Q B b dg n0 z0 nL tc dC dI c') : iAt p l e R s m args below meth cd Q B b dg n0 z0 nL tc dC dI (pc, L, S, h) := by
  unfold iBin at hs
  split at hs
  · cases hs
    intro H locs cells slots ls h1 h2 hl hP hS
    exact lv_imul hx hb hd (k H locs cells slots ls h1 h2 hl hP hS)
  · cases hs
theorem is_iand (hx : p.tables.exec = Jvm.exec) (hb : cd.code = cc) (hd : decode cc pc = .ok (.iand, 1)) (hs : iBin (fun x y => x &&& y) (pc + 1) L S h = some (.inl c')) (k : iAt p l e R s m args below meth cd Q B b dg n0 z0 nL tc dC dI c') : iAt p l e R s m args below meth cd Q B b dg n0 z0 nL tc dC dI (pc, L, S, h) := by
  unfold iBin at hs
  split at hs
  · cases hs
    intro H locs cells slots ls h1 h2 hl hP hS
    exact lv_iand hx hb hd (k H locs cells slots ls h1 h2 hl hP hS)
  · cases hs
theorem is_ior (hx : p.tables.exec = Jvm.exec) (hb : cd.code = cc) (hd : decode cc pc = .ok (.ior, 1)) (hs : iBin (fun x y => x ||| y) (pc + 1) L S h = some (.inl c')) (k : iAt p l e R s m args below meth cd Q B b dg n0 z0 nL tc dC dI c') : iAt p l e R s m args below meth cd Q B b dg n0 z0 nL tc dC dI (pc, L, S, h) := by
  unfold iBin at hs
  split at hs
  · cases hs
    intro H locs cells slots ls h1 h2 hl hP hS
    exact lv_ior hx hb hd (k H locs cells slots ls h1 h2 hl hP hS)
  · cases hs
theorem is_ixor (hx : p.tables.exec = Jvm.exec) (hb : cd.code = cc) (hd : decode cc pc = .ok (.ixor, 1)) (hs : iBin (fun x y => x ^^^ y) (pc + 1) L S h = some (.inl c')) (k : iAt p l e R s m args below meth cd Q B b dg n0 z0 nL tc dC dI c') : iAt p l e R s m args below meth cd Q B b dg n0 z0 nL tc dC dI (pc, L, S, h) := by
  unfold iBin at hs
  split at hs
  · cases hs
    intro H locs cells slots ls h1 h2 hl hP hS
    exact lv_ixor hx hb hd (k H locs cells slots ls h1 h2 hl hP hS)
  · cases hs
theorem is_ishl (hx : p.tables.exec = Jvm.exec) (hb : cd.code = cc) (hd : decode cc pc = .ok (.ishl, 1)) (hs : iBin (fun x y => x <<< (y &&& 31)) (pc + 1) L S h = some (.inl c')) (k : iAt p l e R s m args below meth cd Q B b dg n0 z0 nL tc dC dI c') : iAt p l e R s m args below meth cd Q B b dg n0 z0 nL tc dC dI (pc, L, S, h) := by
  unfold iBin at hs
  split at hs
  · cases hs
    intro H locs cells slots ls h1 h2 hl hP hS
    exact lv_ishl hx hb hd (k H locs cells slots ls h1 h2 hl hP hS)
  · cases hs
theorem is_ishr (hx : p.tables.exec = Jvm.exec) (hb : cd.code = cc) (hd : decode cc pc = .ok (.ishr, 1)) (hs : iBin (fun x y => x >>> (y &&& 31)) (pc + 1) L S h = some (.inl c')) (k : iAt p l e R s m args below meth cd Q B b dg n0 z0 nL tc dC dI c') : iAt p l e R s m args below meth cd Q B b dg n0 z0 nL tc dC dI (pc, L, S, h) := by
  unfold iBin at hs
  split at hs
  · cases hs
    intro H locs cells slots ls h1 h2 hl hP hS
    exact lv_ishr hx hb hd (k H locs cells slots ls h1 h2 hl hP hS)
  · cases hs
theorem is_iushr (hx : p.tables.exec = Jvm.exec) (hb : cd.code = cc) (hd : decode cc pc = .ok (.iushr, 1)) (hs : iBin (fun x y => (x.toUInt32 >>> (y.toUInt32 &&& Int32.toUInt32 31)).toInt32) (pc + 1) L S h = some (.inl c')) (k : iAt p l e R s m args below meth cd Q B b dg n0 z0 nL tc dC dI c') : iAt p l e R s m args below meth cd Q B b dg n0 z0 nL tc dC dI (pc, L, S, h) := by
  unfold iBin at hs
  split at hs
  · cases hs
    intro H locs cells slots ls h1 h2 hl hP hS
    exact lv_iushr hx hb hd rfl (k H locs cells slots ls h1 h2 hl hP hS)
  · cases hs
theorem is_ladd (hx : p.tables.exec = Jvm.exec) (hb : cd.code = cc) (hd : decode cc pc = .ok (.ladd, 1)) (hs : iBil (fun x y => x + y) (pc + 1) L S h = some (.inl c')) (k : iAt p l e R s m args below meth cd Q B b dg n0 z0 nL tc dC dI c') : iAt p l e R s m args below meth cd Q B b dg n0 z0 nL tc dC dI (pc, L, S, h) := by
  unfold iBil at hs
  split at hs
  · cases hs
    intro H locs cells slots ls h1 h2 hl hP hS
    exact lv_ladd hx hb hd (k H locs cells slots ls h1 h2 hl hP hS)
  · cases hs
theorem is_lsub (hx : p.tables.exec = Jvm.exec) (hb : cd.code = cc) (hd : decode cc pc = .ok (.lsub, 1)) (hs : iBil (fun x y => x - y) (pc + 1) L S h = some (.inl c')) (k : iAt p l e R s m args below meth cd Q B b dg n0 z0 nL tc dC dI c') : iAt p l e R s m args below meth cd Q B b dg n0 z0 nL tc dC dI (pc, L, S, h) := by
  unfold iBil at hs
  split at hs
  · cases hs
    intro H locs cells slots ls h1 h2 hl hP hS
    exact lv_lsub hx hb hd (k H locs cells slots ls h1 h2 hl hP hS)
  · cases hs
theorem is_lmul (hx : p.tables.exec = Jvm.exec) (hb : cd.code = cc) (hd : decode cc pc = .ok (.lmul, 1)) (hs : iBil (fun x y => x * y) (pc + 1) L S h = some (.inl c')) (k : iAt p l e R s m args below meth cd Q B b dg n0 z0 nL tc dC dI c') : iAt p l e R s m args below meth cd Q B b dg n0 z0 nL tc dC dI (pc, L, S, h) := by
  unfold iBil at hs
  split at hs
  · cases hs
    intro H locs cells slots ls h1 h2 hl hP hS
    exact lv_lmul hx hb hd (k H locs cells slots ls h1 h2 hl hP hS)
  · cases hs
theorem is_lor (hx : p.tables.exec = Jvm.exec) (hb : cd.code = cc) (hd : decode cc pc = .ok (.lor, 1)) (hs : iBil (fun x y => x ||| y) (pc + 1) L S h = some (.inl c')) (k : iAt p l e R s m args below meth cd Q B b dg n0 z0 nL tc dC dI c') : iAt p l e R s m args below meth cd Q B b dg n0 z0 nL tc dC dI (pc, L, S, h) := by
  unfold iBil at hs
  split at hs
  · cases hs
    intro H locs cells slots ls h1 h2 hl hP hS
    exact lv_lor hx hb hd (k H locs cells slots ls h1 h2 hl hP hS)
  · cases hs
theorem is_i2b (hx : p.tables.exec = Jvm.exec) (hb : cd.code = cc) (hd : decode cc pc = .ok (.i2b, 1)) (hs : iUn (fun x => x.toInt8.toInt32) (pc + 1) L S h = some (.inl c')) (k : iAt p l e R s m args below meth cd Q B b dg n0 z0 nL tc dC dI c') : iAt p l e R s m args below meth cd Q B b dg n0 z0 nL tc dC dI (pc, L, S, h) := by
  unfold iUn at hs
  split at hs
  · cases hs
    intro H locs cells slots ls h1 h2 hl hP hS
    exact lv_i2b hx hb hd rfl (k H locs cells slots ls h1 h2 hl hP hS)
  · cases hs
theorem is_i2s (hx : p.tables.exec = Jvm.exec) (hb : cd.code = cc) (hd : decode cc pc = .ok (.i2s, 1)) (hs : iUn (fun x => x.toInt16.toInt32) (pc + 1) L S h = some (.inl c')) (k : iAt p l e R s m args below meth cd Q B b dg n0 z0 nL tc dC dI c') : iAt p l e R s m args below meth cd Q B b dg n0 z0 nL tc dC dI (pc, L, S, h) := by
  unfold iUn at hs
  split at hs
  · cases hs
    intro H locs cells slots ls h1 h2 hl hP hS
    exact lv_i2s hx hb hd rfl (k H locs cells slots ls h1 h2 hl hP hS)
  · cases hs
theorem iIn0 : ∀ w ∈ u_ws RX0 TX0 6, w ∈ lw_tbl := by decide +kernel
theorem iIn1 : ∀ w ∈ u_ws RX1 TX1 4, w ∈ lw_tbl := by decide +kernel
theorem iIn2 : ∀ w ∈ u_ws RX2 TX2 3, w ∈ lw_tbl := by decide +kernel
theorem iIn3 : ∀ w ∈ u_ws RX3 TX3 4, w ∈ lw_tbl := by decide +kernel
theorem iIn4 : ∀ w ∈ u_ws RX4 TX4 2, w ∈ lw_tbl := by decide +kernel
theorem iIn5 : ∀ w ∈ u_ws RX5 TX5 6, w ∈ lw_tbl := by decide +kernel
theorem iIn6 : ∀ w ∈ u_ws RX6 TX6 3, w ∈ lw_tbl := by decide +kernel
theorem iIn7 : ∀ w ∈ u_ws RX7 TX7 17, w ∈ lw_tbl := by decide +kernel
theorem iIn8 : ∀ w ∈ u_ws RX8 TX8 27, w ∈ lw_tbl := by decide +kernel

theorem iFld {C : String} {T : u_T} {N : Nat} {ci : Nat} (hc : vwCl[ci]? = some (C, T, N)) : (∀ w ∈ u_ws C T N, w ∈ lw_tbl) ∧ (∀ k, k < N → parseFieldDescriptor (T k).2.2.1 = some (iTyF ci k)) ∧ (∀ a, a < N → ∀ b, b < N → a ≠ b → (T a).2.1 ≠ (T b).2.1) ∧ (Cond.instantiable C N ∈ lw_tbl) ∧ (Cond.initialized C ∈ lw_tbl) ∧ (∀ j, j < N → defaultValue (iTyF ci j) = vp_V (iDfl ci) j) ∧ (iDfl ci).length = N := by
  match ci, hc with

  | 0, hc => cases hc; exact ⟨iIn0, tyX0_ok, nmX0, List.mem_of_getElem? (i := 193) (by decide +kernel), List.mem_of_getElem? (i := 78) (by decide +kernel), by decide +kernel, by decide +kernel⟩

  | 1, hc => cases hc; exact ⟨iIn1, tyX1_ok, nmX1, List.mem_of_getElem? (i := 133) (by decide +kernel), List.mem_of_getElem? (i := 75) (by decide +kernel), by decide +kernel, by decide +kernel⟩

  | 2, hc => cases hc; exact ⟨iIn2, tyX2_ok, nmX2, List.mem_of_getElem? (i := 238) (by decide +kernel), List.mem_of_getElem? (i := 81) (by decide +kernel), by decide +kernel, by decide +kernel⟩

  | 3, hc => cases hc; exact ⟨iIn3, tyX3_ok, nmX3, List.mem_of_getElem? (i := 153) (by decide +kernel), List.mem_of_getElem? (i := 76) (by decide +kernel), by decide +kernel, by decide +kernel⟩

  | 4, hc => cases hc; exact ⟨iIn4, tyX4_ok, nmX4, List.mem_of_getElem? (i := 219) (by decide +kernel), List.mem_of_getElem? (i := 79) (by decide +kernel), by decide +kernel, by decide +kernel⟩

  | 5, hc => cases hc; exact ⟨iIn5, tyX5_ok, nmX5, List.mem_of_getElem? (i := 96) (by decide +kernel), List.mem_of_getElem? (i := 74) (by decide +kernel), by decide +kernel, by decide +kernel⟩

  | 6, hc => cases hc; exact ⟨iIn6, tyX6_ok, nmX6, List.mem_of_getElem? (i := 175) (by decide +kernel), List.mem_of_getElem? (i := 77) (by decide +kernel), by decide +kernel, by decide +kernel⟩

  | 7, hc => cases hc; exact ⟨iIn7, tyX7_ok, nmX7, List.mem_of_getElem? (i := 86) (by decide +kernel), List.mem_of_getElem? (i := 73) (by decide +kernel), by decide +kernel, by decide +kernel⟩

  | 8, hc => cases hc; exact ⟨iIn8, tyX8_ok, nmX8, List.mem_of_getElem? (i := 718) (by decide +kernel), List.mem_of_getElem? (i := 82) (by decide +kernel), by decide +kernel, by decide +kernel⟩

  | k + 9, hc => simp [vwCl] at hc

theorem iHu {C : String} {T : u_T} {N ci : Nat} (hts : ∀ w ∈ lw_tbl, iUse w = true → w.before args s = true) (hq : vwCl[ci]? = some (C, T, N)) : ∀ w ∈ u_ws C T N, w.before args s = true := by
  intro w hw
  refine hts w ((iFld hq).1 w hw) ?_
  obtain ⟨k, -, rfl⟩ := List.mem_map.mp hw
  unfold u_lay
  split <;> rfl
theorem is_getfield (hx : p.tables.exec = Jvm.exec) (hb : cd.code = cc) {own : String} (hts : ∀ w ∈ lw_tbl, iUse w = true → w.before args s = true) (hown : s.vm.findClass own = some m.cls) (hK : va_K (dC, dI) vwCl (iTys tc) s) {i res pos : Nat} {q : vw_C} (hq : vwCl[res / 64]? = some q) (hk : res % 64 < q.2.2) (hw : lw_tbl[pos]? = some (.fieldLink own i (q.2.1 (res % 64)).1 (q.2.1 (res % 64)).2.1 (q.2.1 (res % 64)).2.2.1)) (hd : decode cc pc = .ok (.getfield i, 3)) (hs : iGetf (pc + 3) res L S h = some (.inl c')) (k : iAt p l e R s m args below meth cd Q B b dg n0 z0 nL tc dC dI c') : iAt p l e R s m args below meth cd Q B b dg n0 z0 nL tc dC dI (pc, L, S, h) := by
  obtain ⟨C, T, N⟩ := q
  unfold iGetf at hs
  split at hs
  · split at hs
    · rename_i a S' o ci fs ha
      split at hs
      · rename_i hci
        split at hs
        · rename_i v hv
          cases hs
          intro H locs cells slots ls h1 h2 hl hP hS
          rw [iLg_eq] at hv
          exact va_get (D := (dC, dI)) (Ts := u_ws C T N) (T := T) (N := N) hx hb (iHu hts hq) (fun _ h9 => h9) hown hK hP a (iw_at ha) (by rw [hci]; exact hq) (res % 64) hk (hts _ (List.mem_of_getElem? hw) rfl) (fun _ h9 => h9) (by rw [List.getElem?_map, hv]; rfl) hd (k H locs cells slots ls h1 h2 hl hP hS)
        · cases hs
      · cases hs
    · cases hs
  · cases hs
theorem is_iconst (hx : p.tables.exec = Jvm.exec) (hb : cd.code = cc) {n : Int} (hd : decode cc pc = .ok (.iconst n, 1)) (k : iAt p l e R s m args below meth cd Q B b dg n0 z0 nL tc dC dI (pc + 1, L, .int (Int32.ofInt n) :: S, h)) : iAt p l e R s m args below meth cd Q B b dg n0 z0 nL tc dC dI (pc, L, S, h) := by
  intro H locs cells slots ls h1 h2 hl hP hS
  exact lv_iconst hx hb hd rfl (k H locs cells slots ls h1 h2 hl hP hS)
theorem is_bipush (hx : p.tables.exec = Jvm.exec) (hb : cd.code = cc) {n : Int} (hd : decode cc pc = .ok (.bipush n, 2)) (k : iAt p l e R s m args below meth cd Q B b dg n0 z0 nL tc dC dI (pc + 2, L, .int (Int8.ofInt n).toInt32 :: S, h)) : iAt p l e R s m args below meth cd Q B b dg n0 z0 nL tc dC dI (pc, L, S, h) := by
  intro H locs cells slots ls h1 h2 hl hP hS
  exact lv_bipush hx hb hd rfl (k H locs cells slots ls h1 h2 hl hP hS)
theorem is_sipush (hx : p.tables.exec = Jvm.exec) (hb : cd.code = cc) {n : Int} (hd : decode cc pc = .ok (.sipush n, 3)) (k : iAt p l e R s m args below meth cd Q B b dg n0 z0 nL tc dC dI (pc + 3, L, .int (Int16.ofInt n).toInt32 :: S, h)) : iAt p l e R s m args below meth cd Q B b dg n0 z0 nL tc dC dI (pc, L, S, h) := by
  intro H locs cells slots ls h1 h2 hl hP hS
  exact lv_sipush hx hb hd rfl (k H locs cells slots ls h1 h2 hl hP hS)
theorem is_lconst (hx : p.tables.exec = Jvm.exec) (hb : cd.code = cc) {n : Fin 2} (hd : decode cc pc = .ok (.lconst n, 1)) (k : iAt p l e R s m args below meth cd Q B b dg n0 z0 nL tc dC dI (pc + 1, L, .long (Int64.ofNat n) :: S, h)) : iAt p l e R s m args below meth cd Q B b dg n0 z0 nL tc dC dI (pc, L, S, h) := by
  intro H locs cells slots ls h1 h2 hl hP hS
  exact lv_lconst hx hb hd rfl (k H locs cells slots ls h1 h2 hl hP hS)
theorem is_ldc (hx : p.tables.exec = Jvm.exec) (hb : cd.code = cc) {own : String} {i : Nat} {v : Int32} (hown : s.vm.findClass own = some m.cls) (hw : (Jvm.Cond.constant own i v).before args s = true) (hd : decode cc pc = .ok (.ldc i, 2)) (k : iAt p l e R s m args below meth cd Q B b dg n0 z0 nL tc dC dI (pc + 2, L, .int v :: S, h)) : iAt p l e R s m args below meth cd Q B b dg n0 z0 nL tc dC dI (pc, L, S, h) := by
  intro H locs cells slots ls h1 h2 hl hP hS
  exact lv_ldc hx hb hown hw hd (k H locs cells slots ls h1 h2 hl hP hS)
theorem is_ldc_w (hx : p.tables.exec = Jvm.exec) (hb : cd.code = cc) {own : String} {i : Nat} {v : Int32} (hown : s.vm.findClass own = some m.cls) (hw : (Jvm.Cond.constant own i v).before args s = true) (hd : decode cc pc = .ok (.ldc_w i, 3)) (k : iAt p l e R s m args below meth cd Q B b dg n0 z0 nL tc dC dI (pc + 3, L, .int v :: S, h)) : iAt p l e R s m args below meth cd Q B b dg n0 z0 nL tc dC dI (pc, L, S, h) := by
  intro H locs cells slots ls h1 h2 hl hP hS
  exact lv_ldcw hx hb hown hw hd (k H locs cells slots ls h1 h2 hl hP hS)
theorem is_ldc2_w (hx : p.tables.exec = Jvm.exec) (hb : cd.code = cc) {own : String} {i : Nat} {v : Int64} (hown : s.vm.findClass own = some m.cls) (hw : (Jvm.Cond.constantLong own i v).before args s = true) (hd : decode cc pc = .ok (.ldc2_w i, 3)) (k : iAt p l e R s m args below meth cd Q B b dg n0 z0 nL tc dC dI (pc + 3, L, .long v :: S, h)) : iAt p l e R s m args below meth cd Q B b dg n0 z0 nL tc dC dI (pc, L, S, h) := by
  intro H locs cells slots ls h1 h2 hl hP hS
  exact lv_ldc2 hx hb hown hw hd (k H locs cells slots ls h1 h2 hl hP hS)
theorem iLget_mem {L : List (Nat × Value)} {i : Nat} {v : Value} (h : iLget L i = some v) : ∃ k : Nat, L[k]? = some (i, v) := by
  induction L with
  | nil => cases h
  | cons q L ih =>
    obtain ⟨j, w⟩ := q
    simp only [iLget] at h
    by_cases hj : j = i
    · rw [if_pos hj] at h
      cases h; subst hj
      exact ⟨0, rfl⟩
    · rw [if_neg hj] at h
      obtain ⟨k, hk⟩ := ih h
      exact ⟨k + 1, by simpa using hk⟩
theorem is_iinc (hx : p.tables.exec = Jvm.exec) (hb : cd.code = cc) {i : Nat} {n : Int} {val : Value} (hn : i < nL) (hv : val = .int (Int32.ofInt n)) (hd : decode cc pc = .ok (.iinc i n, 3)) (hs : (match iLget L i, val with
      | some (.int x), .int n => iLfl (iP1 i) L (fun L' => iNx (pc + 3) ((i, .int (x + n)) :: L') S h)
      | _, _ => none) = some (.inl c')) (k : iAt p l e R s m args below meth cd Q B b dg n0 z0 nL tc dC dI c') : iAt p l e R s m args below meth cd Q B b dg n0 z0 nL tc dC dI (pc, L, S, h) := by
  subst hv
  split at hs
  · rename_i x n' hg hn'
    cases hn'
    rw [iLfl_eq] at hs
    cases hs
    intro H locs cells slots ls h1 h2 hl hP hS
    obtain ⟨j, hj⟩ := iLget_mem hg
    exact lv_iinc (k := j) hx hb hd hl (x := x) (by show (iL B b dg L)[j]? = _; unfold iL; rw [List.getElem?_map, hj]; rfl) rfl hn (iL_p1 i (.int (x + Int32.ofInt n)) L) (fun ls' hl' => k H locs cells slots ls' h1 h2 hl' hP hS)
  · cases hs
theorem is_idiv (hx : p.tables.exec = Jvm.exec) (hb : cd.code = cc) (hd : decode cc pc = .ok (.idiv, 1)) (hs : (match S with
      | .int y :: .int x :: S' => if ¬ y = 0 then iNx (pc + 1) L (.int (x / y) :: S') h else none
      | _ => none) = some (.inl c')) (k : iAt p l e R s m args below meth cd Q B b dg n0 z0 nL tc dC dI c') : iAt p l e R s m args below meth cd Q B b dg n0 z0 nL tc dC dI (pc, L, S, h) := by
  split at hs
  · split at hs
    · rename_i hy
      cases hs
      intro H locs cells slots ls h1 h2 hl hP hS
      exact lv_idiv hx hb hd hy (k H locs cells slots ls h1 h2 hl hP hS)
    · cases hs
  · cases hs
theorem is_irem (hx : p.tables.exec = Jvm.exec) (hb : cd.code = cc) (hd : decode cc pc = .ok (.irem, 1)) (hs : (match S with
      | .int y :: .int x :: S' => if ¬ y = 0 then iNx (pc + 1) L (.int (x - x / y * y) :: S') h else none
      | _ => none) = some (.inl c')) (k : iAt p l e R s m args below meth cd Q B b dg n0 z0 nL tc dC dI c') : iAt p l e R s m args below meth cd Q B b dg n0 z0 nL tc dC dI (pc, L, S, h) := by
  split at hs
  · split at hs
    · rename_i hy
      cases hs
      intro H locs cells slots ls h1 h2 hl hP hS
      exact lv_irem hx hb hd hy (k H locs cells slots ls h1 h2 hl hP hS)
    · cases hs
  · cases hs
theorem is_ldiv (hx : p.tables.exec = Jvm.exec) (hb : cd.code = cc) (hd : decode cc pc = .ok (.ldiv, 1)) (hs : (match S with
      | .long y :: .long x :: S' => if ¬ y = 0 then iNx (pc + 1) L (.long (x / y) :: S') h else none
      | _ => none) = some (.inl c')) (k : iAt p l e R s m args below meth cd Q B b dg n0 z0 nL tc dC dI c') : iAt p l e R s m args below meth cd Q B b dg n0 z0 nL tc dC dI (pc, L, S, h) := by
  split at hs
  · split at hs
    · rename_i hy
      cases hs
      intro H locs cells slots ls h1 h2 hl hP hS
      exact lv_ldiv hx hb hd hy (k H locs cells slots ls h1 h2 hl hP hS)
    · cases hs
  · cases hs
theorem is_lrem (hx : p.tables.exec = Jvm.exec) (hb : cd.code = cc) (hd : decode cc pc = .ok (.lrem, 1)) (hs : (match S with
      | .long y :: .long x :: S' => if ¬ y = 0 then iNx (pc + 1) L (.long (x - x / y * y) :: S') h else none
      | _ => none) = some (.inl c')) (k : iAt p l e R s m args below meth cd Q B b dg n0 z0 nL tc dC dI c') : iAt p l e R s m args below meth cd Q B b dg n0 z0 nL tc dC dI (pc, L, S, h) := by
  split at hs
  · split at hs
    · rename_i hy
      cases hs
      intro H locs cells slots ls h1 h2 hl hP hS
      exact lv_lrem hx hb hd hy (k H locs cells slots ls h1 h2 hl hP hS)
    · cases hs
  · cases hs
theorem is_lshl (hx : p.tables.exec = Jvm.exec) (hb : cd.code = cc) (hd : decode cc pc = .ok (.lshl, 1)) (hs : (match S with
      | .int y :: .long x :: S' => iNx (pc + 1) L (.long (x <<< (y.toInt64 &&& 63)) :: S') h
      | _ => none) = some (.inl c')) (k : iAt p l e R s m args below meth cd Q B b dg n0 z0 nL tc dC dI c') : iAt p l e R s m args below meth cd Q B b dg n0 z0 nL tc dC dI (pc, L, S, h) := by
  split at hs
  · cases hs
    intro H locs cells slots ls h1 h2 hl hP hS
    exact lv_lshl hx hb hd rfl (k H locs cells slots ls h1 h2 hl hP hS)
  · cases hs
theorem is_lcmp (hx : p.tables.exec = Jvm.exec) (hb : cd.code = cc) (hd : decode cc pc = .ok (.lcmp, 1)) (hs : (match S with
      | .long y :: .long x :: S' => iNx (pc + 1) L (.int (lg_cmp x y) :: S') h
      | _ => none) = some (.inl c')) (k : iAt p l e R s m args below meth cd Q B b dg n0 z0 nL tc dC dI c') : iAt p l e R s m args below meth cd Q B b dg n0 z0 nL tc dC dI (pc, L, S, h) := by
  split at hs
  · cases hs
    intro H locs cells slots ls h1 h2 hl hP hS
    exact W.lcmp hx hb hd (k H locs cells slots ls h1 h2 hl hP hS)
  · cases hs
theorem is_i2l (hx : p.tables.exec = Jvm.exec) (hb : cd.code = cc) (hd : decode cc pc = .ok (.i2l, 1)) (hs : (match S with
      | .int x :: S' => iNx (pc + 1) L (.long x.toInt64 :: S') h
      | _ => none) = some (.inl c')) (k : iAt p l e R s m args below meth cd Q B b dg n0 z0 nL tc dC dI c') : iAt p l e R s m args below meth cd Q B b dg n0 z0 nL tc dC dI (pc, L, S, h) := by
  split at hs
  · cases hs
    intro H locs cells slots ls h1 h2 hl hP hS
    exact lv_i2l hx hb hd rfl (k H locs cells slots ls h1 h2 hl hP hS)
  · cases hs
theorem is_dup2 (hx : p.tables.exec = Jvm.exec) (hb : cd.code = cc) (hd : decode cc pc = .ok (.dup2, 1)) (hs : (match S with
      | .int x :: .ref y :: S' => iNx (pc + 1) L (.int x :: .ref y :: .int x :: .ref y :: S') h
      | _ => none) = some (.inl c')) (k : iAt p l e R s m args below meth cd Q B b dg n0 z0 nL tc dC dI c') : iAt p l e R s m args below meth cd Q B b dg n0 z0 nL tc dC dI (pc, L, S, h) := by
  split at hs
  · cases hs
    intro H locs cells slots ls h1 h2 hl hP hS
    exact lv_dup2_11 hx hb hd rfl rfl (k H locs cells slots ls h1 h2 hl hP hS)
  · cases hs
theorem is_dup (hx : p.tables.exec = Jvm.exec) (hb : cd.code = cc) (hd : decode cc pc = .ok (.dup, 1)) (hs : (match S with
      | .int x :: S' => iNx (pc + 1) L (.int x :: .int x :: S') h
      | .ref x :: S' => iNx (pc + 1) L (.ref x :: .ref x :: S') h
      | _ => none) = some (.inl c')) (k : iAt p l e R s m args below meth cd Q B b dg n0 z0 nL tc dC dI c') : iAt p l e R s m args below meth cd Q B b dg n0 z0 nL tc dC dI (pc, L, S, h) := by
  split at hs
  · cases hs
    intro H locs cells slots ls h1 h2 hl hP hS
    exact lv_dup hx hb hd rfl (k H locs cells slots ls h1 h2 hl hP hS)
  · cases hs
    intro H locs cells slots ls h1 h2 hl hP hS
    exact lv_dup hx hb hd rfl (k H locs cells slots ls h1 h2 hl hP hS)
  · cases hs
theorem is_pop (hx : p.tables.exec = Jvm.exec) (hb : cd.code = cc) (hd : decode cc pc = .ok (.pop, 1)) (hs : (match S with
      | .int _ :: S' => iNx (pc + 1) L (S') h
      | .ref _ :: S' => iNx (pc + 1) L (S') h
      | _ => none) = some (.inl c')) (k : iAt p l e R s m args below meth cd Q B b dg n0 z0 nL tc dC dI c') : iAt p l e R s m args below meth cd Q B b dg n0 z0 nL tc dC dI (pc, L, S, h) := by
  split at hs
  · cases hs
    intro H locs cells slots ls h1 h2 hl hP hS
    exact lv_pop hx hb hd rfl (k H locs cells slots ls h1 h2 hl hP hS)
  · cases hs
    intro H locs cells slots ls h1 h2 hl hP hS
    exact lv_pop hx hb hd rfl (k H locs cells slots ls h1 h2 hl hP hS)
  · cases hs
theorem is_goto (hx : p.tables.exec = Jvm.exec) (hb : cd.code = cc) {off : Int} {res : Nat} (ht : (pc : Int) + off = (res : Int)) (hd : decode cc pc = .ok (.goto off, 3)) (k : iAt p l e R s m args below meth cd Q B b dg n0 z0 nL tc dC dI (res, L, S, h)) : iAt p l e R s m args below meth cd Q B b dg n0 z0 nL tc dC dI (pc, L, S, h) := by
  intro H locs cells slots ls h1 h2 hl hP hS
  exact lv_goto hx hb hd ht (k H locs cells slots ls h1 h2 hl hP hS)
theorem is_if_icmp (hx : p.tables.exec = Jvm.exec) (hb : cd.code = cc) {cn : ClassFile.Cond} {off : Int} {res : Nat} (ht : (pc : Int) + off = (res : Int)) (hd : decode cc pc = .ok (.if_icmp cn off, 3)) (hs : (match S with
      | .int y :: .int x :: S' => iCmp cn x y (iNx res L S' h) (iNx (pc + 3) L S' h)
      | _ => none) = some (.inl c')) (k : iAt p l e R s m args below meth cd Q B b dg n0 z0 nL tc dC dI c') : iAt p l e R s m args below meth cd Q B b dg n0 z0 nL tc dC dI (pc, L, S, h) := by
  split at hs
  · cases cn with
    | eq =>
      simp only [iCmp] at hs
      split at hs
      · rename_i hc
        cases hs
        intro H locs cells slots ls h1 h2 hl hP hS
        exact lv_icmp_eq hx hb hd ht (fun _ => (k H locs cells slots ls h1 h2 hl hP hS)) (fun q => absurd hc (by first | exact q | exact fun z => z q))
      · rename_i hc
        cases hs
        intro H locs cells slots ls h1 h2 hl hP hS
        exact lv_icmp_eq hx hb hd ht (fun q => absurd q hc) (fun _ => (k H locs cells slots ls h1 h2 hl hP hS))
    | ne =>
      simp only [iCmp] at hs
      split at hs
      · rename_i hc
        cases hs
        intro H locs cells slots ls h1 h2 hl hP hS
        exact lv_icmp_ne hx hb hd ht (fun _ => (k H locs cells slots ls h1 h2 hl hP hS)) (fun q => absurd hc (by first | exact q | exact fun z => z q))
      · rename_i hc
        cases hs
        intro H locs cells slots ls h1 h2 hl hP hS
        exact lv_icmp_ne hx hb hd ht (fun q => absurd q hc) (fun _ => (k H locs cells slots ls h1 h2 hl hP hS))
    | lt =>
      simp only [iCmp] at hs
      split at hs
      · rename_i hc
        cases hs
        intro H locs cells slots ls h1 h2 hl hP hS
        exact lv_icmp_lt hx hb hd ht (fun _ => (k H locs cells slots ls h1 h2 hl hP hS)) (fun q => absurd hc (by first | exact q | exact fun z => z q))
      · rename_i hc
        cases hs
        intro H locs cells slots ls h1 h2 hl hP hS
        exact lv_icmp_lt hx hb hd ht (fun q => absurd q hc) (fun _ => (k H locs cells slots ls h1 h2 hl hP hS))
    | ge =>
      simp only [iCmp] at hs
      split at hs
      · rename_i hc
        cases hs
        intro H locs cells slots ls h1 h2 hl hP hS
        exact lv_icmp_ge hx hb hd ht (fun _ => (k H locs cells slots ls h1 h2 hl hP hS)) (fun q => absurd hc (by first | exact q | exact fun z => z q))
      · rename_i hc
        cases hs
        intro H locs cells slots ls h1 h2 hl hP hS
        exact lv_icmp_ge hx hb hd ht (fun q => absurd q hc) (fun _ => (k H locs cells slots ls h1 h2 hl hP hS))
    | gt =>
      simp only [iCmp] at hs
      split at hs
      · rename_i hc
        cases hs
        intro H locs cells slots ls h1 h2 hl hP hS
        exact lv_icmp_gt hx hb hd ht (fun _ => (k H locs cells slots ls h1 h2 hl hP hS)) (fun q => absurd hc (by first | exact q | exact fun z => z q))
      · rename_i hc
        cases hs
        intro H locs cells slots ls h1 h2 hl hP hS
        exact lv_icmp_gt hx hb hd ht (fun q => absurd q hc) (fun _ => (k H locs cells slots ls h1 h2 hl hP hS))
    | le =>
      simp only [iCmp] at hs
      split at hs
      · rename_i hc
        cases hs
        intro H locs cells slots ls h1 h2 hl hP hS
        exact lv_icmp_le hx hb hd ht (fun _ => (k H locs cells slots ls h1 h2 hl hP hS)) (fun q => absurd hc (by first | exact q | exact fun z => z q))
      · rename_i hc
        cases hs
        intro H locs cells slots ls h1 h2 hl hP hS
        exact lv_icmp_le hx hb hd ht (fun q => absurd q hc) (fun _ => (k H locs cells slots ls h1 h2 hl hP hS))
  · cases hs
theorem is_ifCond (hx : p.tables.exec = Jvm.exec) (hb : cd.code = cc) {cn : ClassFile.Cond} {off : Int} {res : Nat} (ht : (pc : Int) + off = (res : Int)) (hd : decode cc pc = .ok (.ifCond cn off, 3)) (hs : (match S with
      | .int x :: S' => iCmp cn x 0 (iNx res L S' h) (iNx (pc + 3) L S' h)
      | _ => none) = some (.inl c')) (k : iAt p l e R s m args below meth cd Q B b dg n0 z0 nL tc dC dI c') : iAt p l e R s m args below meth cd Q B b dg n0 z0 nL tc dC dI (pc, L, S, h) := by
  split at hs
  · cases cn with
    | eq =>
      simp only [iCmp] at hs
      split at hs
      · rename_i hc
        cases hs
        intro H locs cells slots ls h1 h2 hl hP hS
        exact lv_if_eq hx hb hd ht (fun _ => (k H locs cells slots ls h1 h2 hl hP hS)) (fun q => absurd hc (by first | exact q | exact fun z => z q))
      · rename_i hc
        cases hs
        intro H locs cells slots ls h1 h2 hl hP hS
        exact lv_if_eq hx hb hd ht (fun q => absurd q hc) (fun _ => (k H locs cells slots ls h1 h2 hl hP hS))
    | ne =>
      simp only [iCmp] at hs
      split at hs
      · rename_i hc
        cases hs
        intro H locs cells slots ls h1 h2 hl hP hS
        exact lv_if_ne hx hb hd ht (fun _ => (k H locs cells slots ls h1 h2 hl hP hS)) (fun q => absurd hc (by first | exact q | exact fun z => z q))
      · rename_i hc
        cases hs
        intro H locs cells slots ls h1 h2 hl hP hS
        exact lv_if_ne hx hb hd ht (fun q => absurd q hc) (fun _ => (k H locs cells slots ls h1 h2 hl hP hS))
    | lt =>
      simp only [iCmp] at hs
      split at hs
      · rename_i hc
        cases hs
        intro H locs cells slots ls h1 h2 hl hP hS
        exact lv_if_lt hx hb hd ht (fun _ => (k H locs cells slots ls h1 h2 hl hP hS)) (fun q => absurd hc (by first | exact q | exact fun z => z q))
      · rename_i hc
        cases hs
        intro H locs cells slots ls h1 h2 hl hP hS
        exact lv_if_lt hx hb hd ht (fun q => absurd q hc) (fun _ => (k H locs cells slots ls h1 h2 hl hP hS))
    | ge =>
      simp only [iCmp] at hs
      split at hs
      · rename_i hc
        cases hs
        intro H locs cells slots ls h1 h2 hl hP hS
        exact lv_if_ge hx hb hd ht (fun _ => (k H locs cells slots ls h1 h2 hl hP hS)) (fun q => absurd hc (by first | exact q | exact fun z => z q))
      · rename_i hc
        cases hs
        intro H locs cells slots ls h1 h2 hl hP hS
        exact lv_if_ge hx hb hd ht (fun q => absurd q hc) (fun _ => (k H locs cells slots ls h1 h2 hl hP hS))
    | gt =>
      simp only [iCmp] at hs
      split at hs
      · rename_i hc
        cases hs
        intro H locs cells slots ls h1 h2 hl hP hS
        exact lv_if_gt hx hb hd ht (fun _ => (k H locs cells slots ls h1 h2 hl hP hS)) (fun q => absurd hc (by first | exact q | exact fun z => z q))
      · rename_i hc
        cases hs
        intro H locs cells slots ls h1 h2 hl hP hS
        exact lv_if_gt hx hb hd ht (fun q => absurd q hc) (fun _ => (k H locs cells slots ls h1 h2 hl hP hS))
    | le =>
      simp only [iCmp] at hs
      split at hs
      · rename_i hc
        cases hs
        intro H locs cells slots ls h1 h2 hl hP hS
        exact lv_if_le hx hb hd ht (fun _ => (k H locs cells slots ls h1 h2 hl hP hS)) (fun q => absurd hc (by first | exact q | exact fun z => z q))
      · rename_i hc
        cases hs
        intro H locs cells slots ls h1 h2 hl hP hS
        exact lv_if_le hx hb hd ht (fun q => absurd q hc) (fun _ => (k H locs cells slots ls h1 h2 hl hP hS))
  · cases hs
theorem is_sw (hx : p.tables.exec = Jvm.exec) (hb : cd.code = cc) {dflt lo hi : Int} {offs : Array Int} {len : Nat} (hd : decode cc pc = .ok (.tableswitch dflt lo hi offs, len)) (hs : iSw pc dflt lo hi offs L S h = some (.inl c')) (k : iAt p l e R s m args below meth cd Q B b dg n0 z0 nL tc dC dI c') : iAt p l e R s m args below meth cd Q B b dg n0 z0 nL tc dC dI (pc, L, S, h) := by
  unfold iSw at hs
  split at hs
  · split at hs
    · rename_i hx1
      split at hs
      · rename_i h0
        cases hs
        intro H locs cells slots ls h1 h2 hl hP hS
        exact lv_tableOut hx hb hd hx1 (Int.toNat_of_nonneg h0).symm (k H locs cells slots ls h1 h2 hl hP hS)
      · cases hs
    · rename_i hx1
      split at hs
      · rename_i off hoff
        split at hs
        · rename_i h0
          cases hs
          intro H locs cells slots ls h1 h2 hl hP hS
          exact lv_tableIn hx hb hd (fun q => hx1 (Or.inl q)) (fun q => hx1 (Or.inr q)) hoff (Int.toNat_of_nonneg h0).symm (k H locs cells slots ls h1 h2 hl hP hS)
        · cases hs
      · cases hs
  · cases hs
theorem iG_nb (hG : iG B b dg Ls xs tc dC dI s s.heap) (hs0 : s.heap.size = B + n0) : b < s.heap.size ∧ ¬ B ≤ b := by
  obtain ⟨-, ⟨h1, -⟩, -⟩ := hG
  omega
theorem is_iaload (hx : p.tables.exec = Jvm.exec) (hb : cd.code = cc) (hG : iG B b dg Ls xs tc dC dI s s.heap) (hs0 : s.heap.size = B + n0) (hd : decode cc pc = .ok (.iaload, 1)) (hs : iAld (iExt Ls xs) (pc + 1) L S h = some (.inl c')) (k : iAt p l e R s m args below meth cd Q B b dg n0 z0 nL tc dC dI c') : iAt p l e R s m args below meth cd Q B b dg n0 z0 nL tc dC dI (pc, L, S, h) := by
  unfold iAld at hs
  split at hs
  · split at hs
    · rename_i a S' o n f ha
      split at hs
      · rename_i hin
        cases hs
        intro H locs cells slots ls h1 h2 hl hP hS
        exact va_iald (D := (dC, dI)) hx hb hG.1 hP _ 0 (iw_at ha) rfl hin hd (k H locs cells slots ls h1 h2 hl hP hS)
      · cases hs
    · cases hs
  · split at hs
    · rename_i i a S' o n f ha
      split at hs
      · rename_i hin
        cases hs
        match a, ha with
        | 0, ha =>
          cases ha
          intro H locs cells slots ls h1 h2 hl hP hS
          exact va_sld hx hb hG.2.1.2 (iG_nb hG hs0).1 (A := fun q => B ≤ q) (iG_nb hG hs0).2 hS hin hd (k H locs cells slots ls h1 h2 hl hP hS)
        | 1, ha =>
          cases ha
          intro H locs cells slots ls h1 h2 hl hP hS
          exact va_ti hx hb hG.2.2.1 hS hin rfl hd (k H locs cells slots ls h1 h2 hl hP hS)
        | n + 2, ha => cases ha
      · cases hs
    · cases hs
  · cases hs
theorem is_laload (hx : p.tables.exec = Jvm.exec) (hb : cd.code = cc) (hK : va_K (dC, dI) vwCl (iTys tc) s) (hd : decode cc pc = .ok (.laload, 1)) (hs : iAll (pc + 1) L S h = some (.inl c')) (k : iAt p l e R s m args below meth cd Q B b dg n0 z0 nL tc dC dI c') : iAt p l e R s m args below meth cd Q B b dg n0 z0 nL tc dC dI (pc, L, S, h) := by
  unfold iAll at hs
  split at hs
  · split at hs
    · rename_i a S' o n f ha
      split at hs
      · rename_i hin
        cases hs
        intro H locs cells slots ls h1 h2 hl hP hS
        exact va_lald (D := (dC, dI)) hx hb hK hP _ 1 (iw_at ha) rfl hin hd (k H locs cells slots ls h1 h2 hl hP hS)
      · cases hs
    · cases hs
  · cases hs
theorem iv_rf (B b dg : Nat) (r : Option Nat) : va_rf (r.map (B + ·)) = iv B b dg (va_rf r) := by cases r <;> rfl
theorem is_aaload (hx : p.tables.exec = Jvm.exec) (hb : cd.code = cc) (hK : va_K (dC, dI) vwCl (iTys tc) s) (hd : decode cc pc = .ok (.aaload, 1)) (hs : iAla (pc + 1) L S h = some (.inl c')) (k : iAt p l e R s m args below meth cd Q B b dg n0 z0 nL tc dC dI c') : iAt p l e R s m args below meth cd Q B b dg n0 z0 nL tc dC dI (pc, L, S, h) := by
  unfold iAla at hs
  split at hs
  · split at hs
    · rename_i a S' o n f ha
      split at hs
      · rename_i hin
        cases hs
        intro H locs cells slots ls h1 h2 hl hP hS
        refine va_aldq (D := (dC, dI)) hx hb hK hP _ 2 (iw_at ha) rfl hin hd ?_
        rw [iv_rf B b dg]
        exact (k H locs cells slots ls h1 h2 hl hP hS)
      · cases hs
    · rename_i a S' o n f ha
      split at hs
      · rename_i hin
        cases hs
        intro H locs cells slots ls h1 h2 hl hP hS
        refine va_aldq (D := (dC, dI)) hx hb hK hP _ 3 (iw_at ha) rfl hin hd ?_
        rw [iv_rf B b dg]
        exact (k H locs cells slots ls h1 h2 hl hP hS)
      · cases hs
    · cases hs
  · cases hs
theorem is_iastore (hx : p.tables.exec = Jvm.exec) (hb : cd.code = cc) (hK : va_K (dC, dI) vwCl (iTys tc) s) (hd : decode cc pc = .ok (.iastore, 1)) (hs : iAst (pc + 1) L S h = some (.inl c')) (k : iAt p l e R s m args below meth cd Q B b dg n0 z0 nL tc dC dI c') : iAt p l e R s m args below meth cd Q B b dg n0 z0 nL tc dC dI (pc, L, S, h) := by
  unfold iAst at hs
  split at hs
  · split at hs
    · rename_i i a S' o n f ha
      split at hs
      · rename_i hin
        cases hs
        intro H locs cells slots ls h1 h2 hl hP hS
        refine va_iast (D := (dC, dI)) hx hb hK hP iw_D hS _ 0 (iw_at ha) rfl hin hd (fun H1 locs1 hP1 _ hS1 => ?_)
        exact k H1 locs1 cells slots ls (by rw [h1]; exact (List.length_set ..).symm) (by rw [h2]; exact (iSl_set ha (by first | rfl | simp [iSz])).symm) hl (by first | exact (iw_set _) ▸ hP1 | (rw [← iw_set]; exact hP1)) hS1
      · cases hs
    · cases hs
  · cases hs
theorem is_lastore (hx : p.tables.exec = Jvm.exec) (hb : cd.code = cc) (hK : va_K (dC, dI) vwCl (iTys tc) s) (hd : decode cc pc = .ok (.lastore, 1)) (hs : iAsl (pc + 1) L S h = some (.inl c')) (k : iAt p l e R s m args below meth cd Q B b dg n0 z0 nL tc dC dI c') : iAt p l e R s m args below meth cd Q B b dg n0 z0 nL tc dC dI (pc, L, S, h) := by
  unfold iAsl at hs
  split at hs
  · split at hs
    · rename_i i a S' o n f ha
      split at hs
      · rename_i hin
        cases hs
        intro H locs cells slots ls h1 h2 hl hP hS
        refine va_last (D := (dC, dI)) hx hb hK hP iw_D hS _ 1 (iw_at ha) rfl hin hd (fun H1 locs1 hP1 _ hS1 => ?_)
        exact k H1 locs1 cells slots ls (by rw [h1]; exact (List.length_set ..).symm) (by rw [h2]; exact (iSl_set ha (by first | rfl | simp [iSz])).symm) hl (by first | exact (iw_set _) ▸ hP1 | (rw [← iw_set]; exact hP1)) hS1
      · cases hs
    · cases hs
  · cases hs
theorem is_alen (hx : p.tables.exec = Jvm.exec) (hb : cd.code = cc) (hG : iG B b dg Ls xs tc dC dI s s.heap) (hs0 : s.heap.size = B + n0) (hd : decode cc pc = .ok (.arraylength, 1)) (hs : iAlen (iExt Ls xs) (pc + 1) L S h = some (.inl c')) (k : iAt p l e R s m args below meth cd Q B b dg n0 z0 nL tc dC dI c') : iAt p l e R s m args below meth cd Q B b dg n0 z0 nL tc dC dI (pc, L, S, h) := by
  unfold iAlen at hs
  split at hs
  · split at hs
    · rename_i a S' o n f ha
      cases hs
      intro H locs cells slots ls h1 h2 hl hP hS
      exact va_alen (D := (dC, dI)) hx hb hG.1 hP _ 0 (iw_at ha) rfl rfl hd (k H locs cells slots ls h1 h2 hl hP hS)
    · rename_i a S' o n f ha
      cases hs
      intro H locs cells slots ls h1 h2 hl hP hS
      exact va_alen (D := (dC, dI)) hx hb hG.1 hP _ 1 (iw_at ha) rfl rfl hd (k H locs cells slots ls h1 h2 hl hP hS)
    · cases hs
  · split at hs
    · rename_i a S' o n f ha
      cases hs
      match a, ha with
      | 0, ha =>
        cases ha
        intro H locs cells slots ls h1 h2 hl hP hS
        exact va_slen hx hb hG.2.1.2 (iG_nb hG hs0).1 (A := fun q => B ≤ q) (iG_nb hG hs0).2 hS hd (k H locs cells slots ls h1 h2 hl hP hS)
      | 1, ha =>
        cases ha
        intro H locs cells slots ls h1 h2 hl hP hS
        exact va_tlen hx hb hG.2.2.1 hS rfl hd (k H locs cells slots ls h1 h2 hl hP hS)
      | n + 2, ha => cases ha
    · cases hs
  · cases hs
theorem is_getstatic (hx : p.tables.exec = Jvm.exec) (hb : cd.code = cc) {own : String} {i : Nat} (hown : s.vm.findClass own = some m.cls) (hw : (Cond.fieldLink own i "LogFlume" "DIGEST_MINUTES" "[I").before args s = true) (hG : iG B b dg Ls xs tc dC dI s s.heap) (hd : decode cc pc = .ok (.getstatic i, 3)) (k : iAt p l e R s m args below meth cd Q B b dg n0 z0 nL tc dC dI (pc + 3, L, .retAddr 1 :: S, h)) : iAt p l e R s m args below meth cd Q B b dg n0 z0 nL tc dC dI (pc, L, S, h) := by
  intro H locs cells slots ls h1 h2 hl hP hS
  exact va_gets hx hb hG.2.2.2 hS hown hw (fun _ h9 => h9) hd (k H locs cells slots ls h1 h2 hl hP hS)
end ISound
end
section
section ISound2
variable {p : Program} {l : Launch} {e : Env} {R : Room} {s : State} {m : MethodId} {args : Array Value} {below : List Frame} {meth : Method} {cd : Code} {Q : State → Prop} {cc : ByteArray} {B b dg n0 z0 nL Ls : Nat} {xs : Nat → Int32} {tc : Nat → ClassId} {dC : Nat → ClassId} {dI : Nat → Nat → Nat} {pc nx : Nat} {L : List (Nat × Value)} {S : List Value} {h : List va_E} {c' : iCfg}

theorem iPut_row (hx : p.tables.exec = Jvm.exec) (hb : cd.code = cc) {own : String} (hts : ∀ w ∈ lw_tbl, iUse w = true → w.before args s = true) (hown : s.vm.findClass own = some m.cls) (hK : va_K (dC, dI) vwCl (iTys tc) s) {i res pos : Nat} {q : vw_C} (hq : vwCl[res / 64]? = some q) (hk : res % 64 < q.2.2) (hw : lw_tbl[pos]? = some (.fieldLink own i (q.2.1 (res % 64)).1 (q.2.1 (res % 64)).2.1 (q.2.1 (res % 64)).2.2.1)) (hfin : (q.2.1 (res % 64)).2.2.2 = true → meth.name = "<init>" ∧ (q.2.1 (res % 64)).1 = own) (hd : decode cc pc = .ok (.putfield i, 3)) {a ci : Nat} {fs : List Value} {v : Value} (ha : iLg h a = some (.inr (ci, fs))) (hci : ci = res / 64) (hlen : res % 64 < fs.length) (hn : narrow (iTyF (res / 64) (res % 64)) (iv B b dg v) = iv B b dg v) (hfit : fits (iTyF (res / 64) (res % 64)) (iv B b dg v) = true) (k : iAt p l e R s m args below meth cd Q B b dg n0 z0 nL tc dC dI (pc + 3, L, S, h.set a (.inr (ci, fs.set (res % 64) v)))) : iAt p l e R s m args below meth cd Q B b dg n0 z0 nL tc dC dI (pc, L, v :: .ref a :: S, h) := by
  obtain ⟨C, T, N⟩ := q
  intro H locs cells slots ls h1 h2 hl hP hS
  have hset : (iw B b dg tc h).set a (B + a, .inr (ci, (fs.map (iv B b dg)).set (res % 64) (iv B b dg v))) = iw B b dg tc (h.set a (.inr (ci, fs.set (res % 64) v))) := by
    rw [← iw_set]
    simp only [iE, List.map_set]
  have hlen' : res % 64 < (fs.map (iv B b dg)).length := by rw [List.length_map]; exact hlen
  cases hf : (T (res % 64)).2.2.2 with
  | false =>
    refine va_put (D := (dC, dI)) (Ts := u_ws C T N) (T := T) (N := N) (ty := iTyF (res / 64) (res % 64)) hx hb (iHu hts hq) (fun _ h9 => h9) (iTyF (res / 64)) (iFld hq).2.1 (iFld hq).2.2.1 hown hK hP iw_D hS a (iw_at ha) (by rw [hci]; exact hq) (res % 64) hk (hts _ (List.mem_of_getElem? hw) rfl) (fun _ h9 => h9) hf ((iFld hq).2.1 _ hk) hn hfit hlen' hd (fun H1 locs1 hP1 _ hS1 => ?_)
    exact k H1 locs1 cells slots ls (by rw [h1]; exact (List.length_set ..).symm) (by rw [h2]; exact (iSl_set ha (by simp [iSz])).symm) hl (hset ▸ hP1) hS1
  | true =>
    refine va_putF (D := (dC, dI)) (Ts := u_ws C T N) (T := T) (N := N) (ty := iTyF (res / 64) (res % 64)) hx hb (iHu hts hq) (fun _ h9 => h9) (iTyF (res / 64)) (iFld hq).2.1 (iFld hq).2.2.1 hown hK hP iw_D hS a (iw_at ha) (by rw [hci]; exact hq) (res % 64) hk (hts _ (List.mem_of_getElem? hw) rfl) (fun _ h9 => h9) hf (hfin hf).1 (hfin hf).2 ((iFld hq).2.1 _ hk) hn hfit hlen' hd (fun H1 locs1 hP1 _ hS1 => ?_)
    exact k H1 locs1 cells slots ls (by rw [h1]; exact (List.length_set ..).symm) (by rw [h2]; exact (iSl_set ha (by simp [iSz])).symm) hl (hset ▸ hP1) hS1
theorem is_putfield (hx : p.tables.exec = Jvm.exec) (hb : cd.code = cc) {own : String} (hts : ∀ w ∈ lw_tbl, iUse w = true → w.before args s = true) (hown : s.vm.findClass own = some m.cls) (hK : va_K (dC, dI) vwCl (iTys tc) s) {i res pos : Nat} {q : vw_C} (hq : vwCl[res / 64]? = some q) (hk : res % 64 < q.2.2) (hw : lw_tbl[pos]? = some (.fieldLink own i (q.2.1 (res % 64)).1 (q.2.1 (res % 64)).2.1 (q.2.1 (res % 64)).2.2.1)) (hfin : (q.2.1 (res % 64)).2.2.2 = true → meth.name = "<init>" ∧ (q.2.1 (res % 64)).1 = own) (hd : decode cc pc = .ok (.putfield i, 3)) (hs : iPutf (pc + 3) res L S h = some (.inl c')) (k : iAt p l e R s m args below meth cd Q B b dg n0 z0 nL tc dC dI c') : iAt p l e R s m args below meth cd Q B b dg n0 z0 nL tc dC dI (pc, L, S, h) := by
  unfold iPutf at hs
  split at hs
  · split at hs
    · rename_i v a S' o ci fs ha
      split at hs
      · rename_i hci
        split at hs
        · rename_i hlen
          split at hs
          · rename_i hty
            cases hs
            refine iPut_row hx hb hts hown hK hq hk hw hfin hd ha hci hlen ?_ ?_ k
            · rw [← hci, hty]; rfl
            · rw [← hci, hty]; rfl
          · rename_i hty
            split at hs
            · rename_i h01
              cases hs
              refine iPut_row hx hb hts hown hK hq hk hw hfin hd ha hci hlen ?_ ?_ k
              · rw [← hci, hty]; rcases h01 with rfl | rfl <;> rfl
              · rw [← hci, hty]; rcases h01 with rfl | rfl <;> rfl
            · cases hs
          · rename_i hty
            cases hs
            refine iPut_row hx hb hts hown hK hq hk hw hfin hd ha hci hlen ?_ ?_ k
            · rw [← hci, hty]; rfl
            · rw [← hci, hty]; rfl
          · rename_i hty
            cases hs
            refine iPut_row hx hb hts hown hK hq hk hw hfin hd ha hci hlen ?_ ?_ k
            · rw [← hci, hty]; rfl
            · rw [← hci, hty]; rfl
          · cases hs
        · cases hs
      · cases hs
    · cases hs
  · cases hs
theorem iup (B : Nat) (f : Nat → Option Nat) (i x : Nat) : (fun j => (va_up f i (some x) j).map (B + ·)) = va_up (fun j => (f j).map (B + ·)) i (some (B + x)) := by
  funext j
  unfold va_up
  by_cases hj : j = i
  · simp [hj]
  · simp [hj]

theorem is_aastore (hx : p.tables.exec = Jvm.exec) (hb : cd.code = cc) (hK : va_K (dC, dI) vwCl (iTys tc) s) (hd : decode cc pc = .ok (.aastore, 1)) (hs : iAsa (pc + 1) L S h = some (.inl c')) (k : iAt p l e R s m args below meth cd Q B b dg n0 z0 nL tc dC dI c') : iAt p l e R s m args below meth cd Q B b dg n0 z0 nL tc dC dI (pc, L, S, h) := by
  unfold iAsa at hs
  split at hs
  · split at hs
    · rename_i x i a S' o1 o2 n f vs ha hv
      split at hs
      · rename_i hin
        cases hs
        intro H locs cells slots ls h1 h2 hl hP hS
        refine va_astq (D := (dC, dI)) (r := (RX4, TX4, 2)) hx hb hK hP iw_D hS _ 2 _ 4 (iw_at ha) rfl (iw_at hv) rfl hin hd (fun H1 locs1 hP1 _ hS1 => ?_)
        refine k H1 locs1 cells slots ls (by rw [h1]; exact (List.length_set ..).symm) (by rw [h2]; exact (iSl_set ha (by rfl)).symm) hl ?_ hS1
        rw [← iw_set]
        simp only [iE, iup]
        exact hP1
      · cases hs
    · rename_i x i a S' o1 o2 n f vs ha hv
      split at hs
      · rename_i hin
        cases hs
        intro H locs cells slots ls h1 h2 hl hP hS
        refine va_astq (D := (dC, dI)) (r := (RX2, TX2, 3)) hx hb hK hP iw_D hS _ 3 _ 2 (iw_at ha) rfl (iw_at hv) rfl hin hd (fun H1 locs1 hP1 _ hS1 => ?_)
        refine k H1 locs1 cells slots ls (by rw [h1]; exact (List.length_set ..).symm) (by rw [h2]; exact (iSl_set ha (by rfl)).symm) hl ?_ hS1
        rw [← iw_set]
        simp only [iE, iup]
        exact hP1
      · cases hs
    · cases hs
  · cases hs

theorem W.bound {H : Heap} {locs : List Loc} {cells slots : Nat} {g : JFrame} (k : H.size ≤ s.heap.size + cells → W p l e R s m args below meth cd H locs cells slots Q g) : W p l e R s m args below meth cd H locs cells slots Q g := by
  intro T hT X
  exact k (by have h := X.same.2.2.1; rw [← hT]; exact h) T hT X
theorem iNewQ {q : Nat} {el : va_E} (hD : va_D (fun q => B ≤ q) (iw B b dg tc h ++ [(q, el)])) (hq : q < B + h.length + 1) : q = B + h.length := by
  have hlen : (iw B b dg tc h).length = h.length := by simp [iw]
  have e1 : (iw B b dg tc h ++ [(q, el)])[h.length]? = some (q, el) := by
    rw [List.getElem?_append_right (by rw [hlen]; exact Nat.le_refl _), hlen]; simp
  have h1 : B ≤ q := hD.2 _ _ e1
  rcases Nat.lt_or_ge q (B + h.length) with hlt | hge
  · exfalso
    have hk : q - B < h.length := by omega
    have e2 : (iw B b dg tc h ++ [(q, el)])[q - B]? = some (B + (q - B), iE B b dg tc h[q - B]) := by
      rw [List.getElem?_append_left (by rw [hlen]; exact hk), iw_get, List.getElem?_eq_getElem hk]; rfl
    have := hD.1 _ _ _ _ e2 e1 (by show B + (q - B) = q; omega)
    omega
  · omega
theorem is_new (hx : p.tables.exec = Jvm.exec) (hb : cd.code = cc) {own : String} (hts : ∀ w ∈ lw_tbl, iUse w = true → w.before args s = true) (hown : s.vm.findClass own = some m.cls) (hK : va_K (dC, dI) vwCl (iTys tc) s) (hs0 : s.heap.size = B + n0) {i res pos : Nat} {q : vw_C} (hq : vwCl[res]? = some q) (hw : lw_tbl[pos]? = some (.classLink own i q.1)) (hd : decode cc pc = .ok (.new i, 3)) (hcl : (h ++ [.inr (res, iDfl res)] : List va_E).length ≤ n0 + R.cells) (hsl : iSl (h ++ [.inr (res, iDfl res)]) ≤ z0 + R.slots) (k : iAt p l e R s m args below meth cd Q B b dg n0 z0 nL tc dC dI (pc + 3, L, .ref h.length :: S, h ++ [.inr (res, iDfl res)])) : iAt p l e R s m args below meth cd Q B b dg n0 z0 nL tc dC dI (pc, L, S, h) := by
  obtain ⟨C, T, N⟩ := q
  obtain ⟨f1, f2, f3, f4, f5, f6, f7⟩ := iFld hq
  have hdm : (iDfl res).map (iv B b dg) = iDfl res := by
    match res with
    | 0 => rfl
    | 1 => rfl
    | 2 => rfl
    | 3 => rfl
    | 4 => rfl
    | 5 => rfl
    | 6 => rfl
    | 7 => rfl
    | n + 8 => rfl
  rw [iSl_push] at hsl
  rw [List.length_append] at hcl
  have hz : iSz (.inr (res, iDfl res)) = N := f7
  rw [hz] at hsl
  simp only [List.length_cons, List.length_nil] at hcl
  intro H locs cells slots ls h1 h2 hl hP hS
  dsimp only at h1 h2
  have hA9 : ∀ q : Nat, s.heap.size ≤ q → B ≤ q := fun q hq => by omega
  refine va_new (D := (dC, dI)) (Ts := u_ws C T N) (T := T) (N := N) (ci := res) (fs := iDfl res) hx hb (iHu hts hq) (fun _ h9 => h9) (iTyF res) f2 hown (hts _ (List.mem_of_getElem? hw) rfl) (hts _ f4 rfl) (hts _ f5 rfl) hK hP iw_D hS hA9 hq f6 (by omega) (by omega) hd (fun q H1 hP1 hD1 hS1 => ?_)
  refine W.bound fun hbd => ?_
  have hqv : q = B + h.length := iNewQ hD1 (by
    have hlt : q < H1.size := (hP1 h.length (q, .inr (res, iDfl res)) (by rw [List.getElem?_append_right (by simp [iw])]; simp [iw])).lt
    omega)
  subst hqv
  refine k H1 locs (cells + 1) (slots + N) ls (by rw [List.length_append]; simp only [List.length_cons, List.length_nil]; omega) (by rw [iSl_push, hz]; omega) hl ?_ hS1
  rw [← iw_push]
  simp only [iE, hdm]
  exact hP1

theorem is_newarray (hx : p.tables.exec = Jvm.exec) (hb : cd.code = cc) (hts : ∀ w ∈ lw_tbl, iUse w = true → w.before args s = true) (hK : va_K (dC, dI) vwCl (iTys tc) s) (hs0 : s.heap.size = B + n0) {ty : ArrayType} (hd : decode cc pc = .ok (.newarray ty, 2)) (hs : iNewa ty (pc + 2) L S h = some (.inl c')) (hcl : c'.2.2.2.length ≤ n0 + R.cells) (hsl : iSl c'.2.2.2 ≤ z0 + R.slots) (k : iAt p l e R s m args below meth cd Q B b dg n0 z0 nL tc dC dI c') : iAt p l e R s m args below meth cd Q B b dg n0 z0 nL tc dC dI (pc, L, S, h) := by
  unfold iNewa at hs
  split at hs
  · rename_i n S'
    split at hs
    · rename_i hn
      cases hs
      rw [iSl_push] at hsl
      rw [List.length_append] at hcl
      simp only [List.length_cons, List.length_nil, iSz] at hcl hsl
      intro H locs cells slots ls h1 h2 hl hP hS
      dsimp only at h1 h2
      have hA9 : ∀ q : Nat, s.heap.size ≤ q → B ≤ q := fun q hq => by omega
      refine va_newa (D := (dC, dI)) (ty := .int) hx hb (hts _ (List.mem_of_getElem? (i := 131) (by decide +kernel)) rfl) rfl hK hP iw_D hS hA9 (N' := n.toNatClampNeg) (a0 := (n.toNatClampNeg, .inl (fun _ => 0))) (fun cA => rfl) hn.1 rfl (by show n.toNatClampNeg * 4 ≤ _; omega) (by omega) (by omega) hd (fun q cA H1 hK1 hP1 hD1 hS1 => ?_)
      refine W.bound fun hbd => ?_
      have hqv : q = B + h.length := iNewQ hD1 (by
        have hlt : q < H1.size := (hP1 h.length (q, .inl (cA, n.toNatClampNeg, .inl (fun _ => 0))) (by rw [List.getElem?_append_right (by simp [iw])]; simp [iw])).lt
        omega)
      subst hqv
      have hcA : cA = tc 0 := by
        have e1 : va_RA s cA .int := (hK1.2 4 (cA, .int) rfl).2
        have e2 : va_RA s (tc 0) .int := (hK1.2 0 (tc 0, .int) rfl).2
        exact Option.some.inj (Eq.trans (Eq.symm e1) e2)
      subst hcA
      refine k H1 locs (cells + 1) (slots + n.toNatClampNeg) ls (by rw [List.length_append]; simp only [List.length_cons, List.length_nil]; omega) (by rw [iSl_push]; simp only [iSz]; omega) hl ?_ hS1
      rw [← iw_push]
      exact hP1
    · cases hs
  · rename_i n S'
    split at hs
    · rename_i hn
      cases hs
      rw [iSl_push] at hsl
      rw [List.length_append] at hcl
      simp only [List.length_cons, List.length_nil, iSz] at hcl hsl
      intro H locs cells slots ls h1 h2 hl hP hS
      dsimp only at h1 h2
      have hA9 : ∀ q : Nat, s.heap.size ≤ q → B ≤ q := fun q hq => by omega
      refine va_newa (D := (dC, dI)) (ty := .long) hx hb (hts _ (List.mem_of_getElem? (i := 237) (by decide +kernel)) rfl) rfl hK hP iw_D hS hA9 (N' := n.toNatClampNeg) (a0 := (n.toNatClampNeg, .inr (.inl (fun _ => 0)))) (fun cA => rfl) hn.1 rfl (by show n.toNatClampNeg * 8 ≤ _; omega) (by omega) (by omega) hd (fun q cA H1 hK1 hP1 hD1 hS1 => ?_)
      refine W.bound fun hbd => ?_
      have hqv : q = B + h.length := iNewQ hD1 (by
        have hlt : q < H1.size := (hP1 h.length (q, .inl (cA, n.toNatClampNeg, .inr (.inl (fun _ => 0)))) (by rw [List.getElem?_append_right (by simp [iw])]; simp [iw])).lt
        omega)
      subst hqv
      have hcA : cA = tc 1 := by
        have e1 : va_RA s cA .long := (hK1.2 4 (cA, .long) rfl).2
        have e2 : va_RA s (tc 1) .long := (hK1.2 1 (tc 1, .long) rfl).2
        exact Option.some.inj (Eq.trans (Eq.symm e1) e2)
      subst hcA
      refine k H1 locs (cells + 1) (slots + n.toNatClampNeg) ls (by rw [List.length_append]; simp only [List.length_cons, List.length_nil]; omega) (by rw [iSl_push]; simp only [iSz]; omega) hl ?_ hS1
      rw [← iw_push]
      exact hP1
    · cases hs
  · cases hs

theorem is_anew2 (hx : p.tables.exec = Jvm.exec) (hb : cd.code = cc) {own : String} (hts : ∀ w ∈ lw_tbl, iUse w = true → w.before args s = true) (hown : s.vm.findClass own = some m.cls) (hK : va_K (dC, dI) vwCl (iTys tc) s) (hs0 : s.heap.size = B + n0) {i pos : Nat} (hw : lw_tbl[pos]? = some (.classLink own i RX4)) (hd : decode cc pc = .ok (.anewarray i, 3)) (hs : iNewq (pc + 3) 2 L S h = some (.inl c')) (hcl : c'.2.2.2.length ≤ n0 + R.cells) (hsl : iSl c'.2.2.2 ≤ z0 + R.slots) (k : iAt p l e R s m args below meth cd Q B b dg n0 z0 nL tc dC dI c') : iAt p l e R s m args below meth cd Q B b dg n0 z0 nL tc dC dI (pc, L, S, h) := by
  unfold iNewq at hs
  split at hs
  · rename_i n S'
    split at hs
    · rename_i hn
      cases hs
      rw [iSl_push] at hsl
      rw [List.length_append] at hcl
      simp only [List.length_cons, List.length_nil, iSz] at hcl hsl
      intro H locs cells slots ls h1 h2 hl hP hS
      dsimp only at h1 h2
      have hA9 : ∀ q : Nat, s.heap.size ≤ q → B ≤ q := fun q hq => by omega
      refine va_newq (D := (dC, dI)) hx hb hown (hts _ (List.mem_of_getElem? hw) rfl) (va_AO.of (hts (.arrayOver (.object RX4)) (List.mem_of_getElem? (i := 94) (by decide +kernel)) rfl)) hK hP iw_D hS hA9 hn.1 rfl (by omega) (by omega) (by omega) hd (fun q cA H1 hK1 hP1 hD1 hS1 => ?_)
      refine W.bound fun hbd => ?_
      have hqv : q = B + h.length := iNewQ hD1 (by
        have hlt : q < H1.size := (hP1 h.length (q, .inl (cA, n.toNatClampNeg, .inr (.inr (.inr (.inr (fun _ => none)))))) (by rw [List.getElem?_append_right (by simp [iw])]; simp [iw])).lt
        omega)
      subst hqv
      have hcA : cA = tc 2 := by
        obtain ⟨_, _, _, _, _, e1⟩ := (hK1.2 4 (cA, .object RX4) rfl).2
        obtain ⟨_, _, _, _, _, e2⟩ := (hK1.2 2 (tc 2, .object RX4) rfl).2
        exact Option.some.inj (e1.symm.trans e2)
      subst hcA
      refine k H1 locs (cells + 1) (slots + n.toNatClampNeg) ls (by rw [List.length_append]; simp only [List.length_cons, List.length_nil]; omega) (by rw [iSl_push]; simp only [iSz]; omega) hl ?_ hS1
      rw [← iw_push]
      exact hP1
    · cases hs
  · cases hs

theorem is_anew3 (hx : p.tables.exec = Jvm.exec) (hb : cd.code = cc) {own : String} (hts : ∀ w ∈ lw_tbl, iUse w = true → w.before args s = true) (hown : s.vm.findClass own = some m.cls) (hK : va_K (dC, dI) vwCl (iTys tc) s) (hs0 : s.heap.size = B + n0) {i pos : Nat} (hw : lw_tbl[pos]? = some (.classLink own i RX2)) (hd : decode cc pc = .ok (.anewarray i, 3)) (hs : iNewq (pc + 3) 3 L S h = some (.inl c')) (hcl : c'.2.2.2.length ≤ n0 + R.cells) (hsl : iSl c'.2.2.2 ≤ z0 + R.slots) (k : iAt p l e R s m args below meth cd Q B b dg n0 z0 nL tc dC dI c') : iAt p l e R s m args below meth cd Q B b dg n0 z0 nL tc dC dI (pc, L, S, h) := by
  unfold iNewq at hs
  split at hs
  · rename_i n S'
    split at hs
    · rename_i hn
      cases hs
      rw [iSl_push] at hsl
      rw [List.length_append] at hcl
      simp only [List.length_cons, List.length_nil, iSz] at hcl hsl
      intro H locs cells slots ls h1 h2 hl hP hS
      dsimp only at h1 h2
      have hA9 : ∀ q : Nat, s.heap.size ≤ q → B ≤ q := fun q hq => by omega
      refine va_newq (D := (dC, dI)) hx hb hown (hts _ (List.mem_of_getElem? hw) rfl) (va_AO.of (hts (.arrayOver (.object RX2)) (List.mem_of_getElem? (i := 173) (by decide +kernel)) rfl)) hK hP iw_D hS hA9 hn.1 rfl (by omega) (by omega) (by omega) hd (fun q cA H1 hK1 hP1 hD1 hS1 => ?_)
      refine W.bound fun hbd => ?_
      have hqv : q = B + h.length := iNewQ hD1 (by
        have hlt : q < H1.size := (hP1 h.length (q, .inl (cA, n.toNatClampNeg, .inr (.inr (.inr (.inr (fun _ => none)))))) (by rw [List.getElem?_append_right (by simp [iw])]; simp [iw])).lt
        omega)
      subst hqv
      have hcA : cA = tc 3 := by
        obtain ⟨_, _, _, _, _, e1⟩ := (hK1.2 4 (cA, .object RX2) rfl).2
        obtain ⟨_, _, _, _, _, e2⟩ := (hK1.2 3 (tc 3, .object RX2) rfl).2
        exact Option.some.inj (e1.symm.trans e2)
      subst hcA
      refine k H1 locs (cells + 1) (slots + n.toNatClampNeg) ls (by rw [List.length_append]; simp only [List.length_cons, List.length_nil]; omega) (by rw [iSl_push]; simp only [iSz]; omega) hl ?_ hS1
      rw [← iw_push]
      exact hP1
    · cases hs
  · cases hs

theorem is_objinit (hx : p.tables.exec = Jvm.exec) (hb : cd.code = cc) (hml : cd.maxLocals = nL) {own : String} (hts : ∀ w ∈ lw_tbl, iUse w = true → w.before args s = true) (hown : s.vm.findClass own = some m.cls) (hRf : 1 ≤ R.frames) (hRl : 30 ≤ R.locals) {i pos : Nat} (hw : lw_tbl[pos]? = some (.methodLink own i Lib.objectInit)) (hd : decode cc pc = .ok (.invokespecial i, 3)) (hs : iOI (pc + 3) L S h = some (.inl c')) (k : iAt p l e R s m args below meth cd Q B b dg n0 z0 nL tc dC dI c') : iAt p l e R s m args below meth cd Q B b dg n0 z0 nL tc dC dI (pc, L, S, h) := by
  unfold iOI at hs
  split at hs
  · rename_i a S'
    cases hq : Nat.ble (iCat S') 8 with
    | false => rw [hq] at hs; cases hs
    | true =>
      rw [hq] at hs
      cases hs
      have hq := Nat.le_of_ble_eq_true hq
      intro H locs cells slots ls h1 h2 hl hP hS
      exact W.objInit hx hb hown (hts _ (List.mem_of_getElem? hw) rfl) (hts _ (List.mem_of_getElem? (i := 91) (by decide +kernel)) rfl) (hts _ (List.mem_of_getElem? (i := 92) (by decide +kernel)) rfl) rfl (hl.1.trans hml.symm) rfl hd hRf (by show 2 * 0 + _ + 12 ≤ _; rw [iCat_eq]; omega) (k H locs cells slots ls h1 h2 hl hP hS)
  · cases hs

theorem is_copy (hx : p.tables.exec = Jvm.exec) (hb : cd.code = cc) (hml : cd.maxLocals = nL) {own : String} (hts : ∀ w ∈ lw_tbl, iUse w = true → w.before args s = true) (hown : s.vm.findClass own = some m.cls) (hK : va_K (dC, dI) vwCl (iTys tc) s) (hRf : 1 ≤ R.frames) (hRl : 30 ≤ R.locals) {i pos : Nat} (hw : lw_tbl[pos]? = some (.methodLink own i arraycopyName)) (hd : decode cc pc = .ok (.invokestatic i, 3)) (hs : iCopy (pc + 3) L S h = some (.inl c')) (k : iAt p l e R s m args below meth cd Q B b dg n0 z0 nL tc dC dI c') : iAt p l e R s m args below meth cd Q B b dg n0 z0 nL tc dC dI (pc, L, S, h) := by
  unfold iCopy at hs
  split at hs
  · rename_i n dp a sp a0 S'
    cases hq : Nat.ble (iCat S') 8 with
    | false => rw [hq] at hs; cases hs
    | true =>
      rw [hq] at hs
      have hq := Nat.le_of_ble_eq_true hq
      simp only [Bool.not_true, cond_false] at hs
      split at hs
      · rename_i o1 o2 n0' f n1' g' ha0 ha1
        split at hs
        · rename_i hc
          cases hs
          intro H locs cells slots ls h1 h2 hl hP hS
          refine va_copyi (D := (dC, dI)) (ty := .int) hx hb (hml.trans hl.1.symm) hown (hts _ (List.mem_of_getElem? hw) rfl) (hts _ (List.mem_of_getElem? (i := 663) (by decide +kernel)) rfl) (hts _ (List.mem_of_getElem? (i := 662) (by decide +kernel)) rfl) (hts _ (List.mem_of_getElem? (i := 84) (by decide +kernel)) rfl) hK hP iw_D hS _ _ 0 0 (iw_at ha0) (iw_at ha1) rfl rfl rfl hc.1.1 hc.1.2.1 hc.1.2.2 hc.2.1 hc.2.2 (fun _ _ => rfl) hRf (by rw [iCat_eq]; show _ + (5 + 2 + 11) ≤ _; omega) hd (fun H1 locs1 hP1 _ hS1 => ?_)
          exact k H1 locs1 cells slots ls (by rw [h1]; exact (List.length_set ..).symm) (by rw [h2]; exact (iSl_set ha1 (by rfl)).symm) hl (by rw [← iw_set]; exact hP1) hS1
        · cases hs
      · cases hs
  · cases hs

theorem is_mmax (hx : p.tables.exec = Jvm.exec) (hb : cd.code = cc) (hml : cd.maxLocals = nL) {own : String} (hts : ∀ w ∈ lw_tbl, iUse w = true → w.before args s = true) (hown : s.vm.findClass own = some m.cls) (hRf : 1 ≤ R.frames) (hRl : 30 ≤ R.locals) {i pos : Nat} (hw : lw_tbl[pos]? = some (.methodLink own i Lib.Math.max.name)) (hd : decode cc pc = .ok (.invokestatic i, 3)) (hs : iMax (pc + 3) L S h = some (.inl c')) (hcl : c'.2.2.2.length ≤ n0 + R.cells) (hsl : iSl c'.2.2.2 ≤ z0 + R.slots) (k : iAt p l e R s m args below meth cd Q B b dg n0 z0 nL tc dC dI c') : iAt p l e R s m args below meth cd Q B b dg n0 z0 nL tc dC dI (pc, L, S, h) := by
  unfold iMax at hs
  split at hs
  · rename_i y x S'
    cases hq : Nat.ble (iCat S') 8 with
    | false => rw [hq] at hs; cases hs
    | true =>
      rw [hq] at hs
      cases hs
      have hq := Nat.le_of_ble_eq_true hq
      intro H locs cells slots ls h1 h2 hl hP hS
      dsimp only at h1 h2 hcl hsl
      exact va_mmax hx hb (hml.trans hl.1.symm) hown (hts _ (List.mem_of_getElem? hw) rfl) (hts _ (List.mem_of_getElem? (i := 225) (by decide +kernel)) rfl) (hts _ (List.mem_of_getElem? (i := 80) (by decide +kernel)) rfl) (hts _ (List.mem_of_getElem? (i := 226) (by decide +kernel)) rfl) hRf (by rw [iCat_eq]; omega) (by omega) (by omega) hd (k H locs cells slots ls h1 h2 hl hP hS)
  · cases hs
theorem is_mmin (hx : p.tables.exec = Jvm.exec) (hb : cd.code = cc) (hml : cd.maxLocals = nL) {own : String} (hts : ∀ w ∈ lw_tbl, iUse w = true → w.before args s = true) (hown : s.vm.findClass own = some m.cls) (hRf : 1 ≤ R.frames) (hRl : 30 ≤ R.locals) {i pos : Nat} (hw : lw_tbl[pos]? = some (.methodLink own i Lib.Math.min.name)) (hd : decode cc pc = .ok (.invokestatic i, 3)) (hs : iMin (pc + 3) L S h = some (.inl c')) (hcl : c'.2.2.2.length ≤ n0 + R.cells) (hsl : iSl c'.2.2.2 ≤ z0 + R.slots) (k : iAt p l e R s m args below meth cd Q B b dg n0 z0 nL tc dC dI c') : iAt p l e R s m args below meth cd Q B b dg n0 z0 nL tc dC dI (pc, L, S, h) := by
  unfold iMin at hs
  split at hs
  · rename_i y x S'
    cases hq : Nat.ble (iCat S') 8 with
    | false => rw [hq] at hs; cases hs
    | true =>
      rw [hq] at hs
      cases hs
      have hq := Nat.le_of_ble_eq_true hq
      intro H locs cells slots ls h1 h2 hl hP hS
      dsimp only at h1 h2 hcl hsl
      exact va_mmin hx hb (hml.trans hl.1.symm) hown (hts _ (List.mem_of_getElem? hw) rfl) (hts _ (List.mem_of_getElem? (i := 422) (by decide +kernel)) rfl) (hts _ (List.mem_of_getElem? (i := 80) (by decide +kernel)) rfl) (hts _ (List.mem_of_getElem? (i := 423) (by decide +kernel)) rfl) hRf (by rw [iCat_eq]; omega) (by omega) (by omega) hd (k H locs cells slots ls h1 h2 hl hP hS)
  · cases hs
end ISound2
end
section
/-! calls, answers, the whole interpreter -/
abbrev iMy (M : iMeth) : MethodName := M.1
abbrev iMb (M : iMeth) : ByteArray := M.2.1
abbrev iMl (M : iMeth) : Nat := M.2.2.1
abbrev iMr (M : iMeth) : Option FieldType := M.2.2.2.1
abbrev iMn (M : iMeth) : Nat := M.2.2.2.2.1
abbrev iMk (M : iMeth) : Nat := M.2.2.2.2.2.1
abbrev iMp (M : iMeth) : List Nat := M.2.2.2.2.2.2.1
abbrev iMt (M : iMeth) : List (List (Option iEnt)) := M.2.2.2.2.2.2.2
def iLen : Instr → Nat
  | .bipush _ => 2 | .ldc _ => 2 | .iload _ => 2 | .lload _ => 2 | .aload _ => 2 | .istore _ => 2 | .lstore _ => 2 | .astore _ => 2 | .newarray _ => 2
  | .sipush _ => 3 | .ldc_w _ => 3 | .ldc2_w _ => 3 | .iinc _ _ => 3 | .goto _ => 3 | .if_icmp _ _ => 3 | .ifCond _ _ => 3 | .getfield _ => 3 | .putfield _ => 3 | .getstatic _ => 3 | .new _ => 3 | .anewarray _ => 3 | .invokespecial _ => 3 | .invokevirtual _ => 3 | .invokestatic _ => 3
  | _ => 1
def iOkF (M : iMeth) (res pos i : Nat) : Bool := match vwCl[res / 64]? with
  | some q => decide (res % 64 < q.2.2) && decide (lw_tbl[pos]? = some (.fieldLink (iMy M).cls i (q.2.1 (res % 64)).1 (q.2.1 (res % 64)).2.1 (q.2.1 (res % 64)).2.2.1))
  | none => false
def iOkFin (M : iMeth) (res : Nat) : Bool := match vwCl[res / 64]? with
  | some q => !(q.2.1 (res % 64)).2.2.2 || (decide ((iMy M).name = "<init>") && decide ((q.2.1 (res % 64)).1 = (iMy M).cls))
  | none => false
def iOkL (M C : iMeth) (pos i : Nat) : Bool := decide (lw_tbl[pos]? = some (.methodLink (iMy M).cls i (iMy C)))
def iOkN (M C : iMeth) (pos i : Nat) : Bool := decide (lw_tbl[pos]? = some (.methodLinkNest (iMy M).cls i (iMy C) "LogFlume"))
def iOkI (P : Nat → Option iMeth) (M : iMeth) (pc : Nat) (ins : Instr) (nx res : Nat) (val : Value) (pos : Nat) : Bool := match ins with
  | .iconst n => decide (val = .int (Int32.ofInt n))
  | .bipush n => decide (val = .int (Int8.ofInt n).toInt32)
  | .sipush n => decide (val = .int (Int16.ofInt n).toInt32)
  | .lconst n => decide (val = .long (Int64.ofNat n))
  | .ldc i => (match val with
    | .int v => decide (lw_tbl[pos]? = some (.constant (iMy M).cls i v))
    | _ => false)
  | .ldc_w i => (match val with
    | .int v => decide (lw_tbl[pos]? = some (.constant (iMy M).cls i v))
    | _ => false)
  | .ldc2_w i => (match val with
    | .long v => decide (lw_tbl[pos]? = some (.constantLong (iMy M).cls i v))
    | _ => false)
  | .iinc i n => decide (val = .int (Int32.ofInt n)) && decide (i < iMl M)
  | .istore i => decide (i < iMl M)
  | .istore_n i => decide (i.val < iMl M)
  | .astore i => decide (i < iMl M)
  | .astore_n i => decide (i.val < iMl M)
  | .lstore i => decide (i + 1 < iMl M)
  | .lstore_n i => decide (i.val + 1 < iMl M)
  | .goto off => decide ((pc : Int) + off = (res : Int))
  | .if_icmp _ off => decide ((pc : Int) + off = (res : Int))
  | .ifCond _ off => decide ((pc : Int) + off = (res : Int))
  | .getfield i => iOkF M res pos i
  | .putfield i => iOkF M res pos i && iOkFin M res
  | .getstatic i => decide (lw_tbl[pos]? = some (.fieldLink (iMy M).cls i "LogFlume" "DIGEST_MINUTES" "[I"))
  | .new i => (match vwCl[res]? with
    | some q => decide (lw_tbl[pos]? = some (.classLink (iMy M).cls i q.1))
    | none => false)
  | .anewarray i => (decide (res = 2) && decide (lw_tbl[pos]? = some (.classLink (iMy M).cls i RX4))) || (decide (res = 3) && decide (lw_tbl[pos]? = some (.classLink (iMy M).cls i RX2)))
  | .invokespecial i => if res = 1000 then decide (lw_tbl[pos]? = some (.methodLink (iMy M).cls i Lib.objectInit)) else (match P res with
    | some C => decide (iMk C = 2) && (iOkL M C pos i || iOkN M C pos i)
    | none => false)
  | .invokevirtual i => (match P res with
    | some C => decide (10 ≤ iMk C) && iOkL M C pos i
    | none => false)
  | .invokestatic i => if res = 1001 then decide (lw_tbl[pos]? = some (.methodLink (iMy M).cls i arraycopyName)) else if res = 1002 then decide (lw_tbl[pos]? = some (.methodLink (iMy M).cls i Lib.Math.max.name)) else if res = 1003 then decide (lw_tbl[pos]? = some (.methodLink (iMy M).cls i Lib.Math.min.name)) else (match P res with
    | some C => decide (iMk C = 0) && (iOkL M C pos i || iOkN M C pos i)
    | none => false)
  | .tableswitch dflt lo hi offs => decide (decode (iMb M) pc = .ok (.tableswitch dflt lo hi offs, nx - pc))
  | _ => true
def iIsSw : Instr → Bool
  | .tableswitch _ _ _ _ => true
  | _ => false
def iOkE (P : Nat → Option iMeth) (M : iMeth) (pc : Nat) (en : iEnt) : Bool := match en with
  | (ins, nx, res, val, pos) => (iIsSw ins || (decide (nx = pc + iLen ins) && decide (decode (iMb M) pc = .ok (ins, iLen ins)))) && iOkI P M pc ins nx res val pos
def iOkT (P : Nat → Option iMeth) (M : iMeth) : Bool := (List.range (16 * (iMt M).length)).all (fun pc => match iFetch (iMt M) pc with
  | none => true
  | some en => iOkE P M pc en)
theorem iOkT_at {P : Nat → Option iMeth} {M : iMeth} (h : iOkT P M = true) {pc : Nat} {en : iEnt} (hf : iFetch (iMt M) pc = some en) : iOkE P M pc en = true := by
  have hlt : pc < 16 * (iMt M).length := by
    unfold iFetch at hf
    split at hf
    · rename_i r hr
      rw [iLg_eq] at hr
      have := (List.getElem?_eq_some_iff.mp hr).1
      omega
    · cases hf
  have h1 := List.all_eq_true.mp h pc (List.mem_range.mpr hlt)
  rw [hf] at h1
  exact h1
def iOkK (C : iMeth) : Bool := if iMk C = 0 then decide (lw_tbl[(iMp C).getD 2 0]? = some (.static (iMy C))) else decide (lw_tbl[(iMp C).getD 2 0]? = some (.instanceMethod (iMy C))) && (if iMk C = 2 then decide ((iMy C).name = "<init>") && decide (iMr C = none) else decide (lw_tbl[(iMp C).getD 3 0]? = some (.selects (iMy C).cls (iMy C) (iMy C))) && (match vwCl[iMk C - 10]? with
  | some q => decide (q.1 = (iMy C).cls)
  | none => false))
def iOkM (C : iMeth) : Bool := plainName (iMy C).cls && (decide (lw_tbl[(iMp C).getD 0 0]? = some (.code (iMy C) (iMb C) (iMl C) (iMr C))) && (decide (lw_tbl[(iMp C).getD 1 0]? = some (.initialized (iMy C).cls)) && (decide ((iMy C).cls ≠ "java/lang/invoke/MethodHandle") && (decide ((iMy C).cls ≠ "java/lang/invoke/VarHandle") && (decide ((parseMethodDescriptor (iMy C).desc).map (fun d => d.parameters.length) = some (iMn C)) && (decide (iMl C ≤ 21) && iOkK C))))))
section IMono
variable {E : iExtT} {np nk : Nat → Nat} {ret : Option FieldType} {pc : Nat} {en : iEnt} {L : List (Nat × Value)} {S : List Value} {h : List va_E}
theorem iEx_mono {c' : iCfg} (hs : iEx E np nk ret pc en L S h = some (.inl c')) : h.length ≤ c'.2.2.2.length ∧ iSl h ≤ iSl c'.2.2.2 := by
  obtain ⟨ins, nx, res, val, pos⟩ := en
  have key : ∀ {nx' : Nat} {L' : List (Nat × Value)} {S' : List Value}, iNx nx' L' S' h = some (.inl c') → h.length ≤ c'.2.2.2.length ∧ iSl h ≤ iSl c'.2.2.2 := by
    intro nx' L' S' hh
    cases hh
    exact ⟨Nat.le_refl _, Nat.le_refl _⟩
  have kset : ∀ {nx' : Nat} {L' : List (Nat × Value)} {S' : List Value} {a : Nat} {e0 e1 : va_E}, iLg h a = some e0 → iSz e1 = iSz e0 → iNx nx' L' S' (h.set a e1) = some (.inl c') → h.length ≤ c'.2.2.2.length ∧ iSl h ≤ iSl c'.2.2.2 := by
    intro nx' L' S' a e0 e1 h1 h2 hh
    cases hh
    exact ⟨by rw [List.length_set]; exact Nat.le_refl _, by rw [iSl_set h1 h2]; exact Nat.le_refl _⟩
  have kpush : ∀ {nx' : Nat} {L' : List (Nat × Value)} {S' : List Value} {e1 : va_E}, iNx nx' L' S' (h ++ [e1]) = some (.inl c') → h.length ≤ c'.2.2.2.length ∧ iSl h ≤ iSl c'.2.2.2 := by
    intro nx' L' S' e1 hh
    cases hh
    exact ⟨by rw [List.length_append]; omega, by rw [iSl_push]; omega⟩
  cases ins <;> simp only [iEx, iLdI, iLdL, iLdA, iStI, iStL, iStA, iBin, iBil, iUn, iGetf, iPutf, iAld, iAll, iAla, iAlen, iAst, iAsl, iAsa, iNewa, iNewq, iCopy, iMax, iMin, iOI, iLfl_eq, iSw, iCmp, iCallS, iCallI, iCallV, cond_eq_ite] at hs
  all_goals (repeat' split at hs)
  all_goals first | (cases hs; done) | exact key hs | exact kpush hs | exact kset (by assumption) (by first | rfl | simp [iSz]) hs
theorem iEx_call {n : Nat} {as : List Value} {c' : iCfg} (hs : iEx E np nk ret pc en L S h = some (.inr (.inl (n, as, c')))) : c'.2.2.2 = h := by
  obtain ⟨ins, nx, res, val, pos⟩ := en
  cases ins <;> simp only [iEx, iLdI, iLdL, iLdA, iStI, iStL, iStA, iBin, iBil, iUn, iGetf, iPutf, iAld, iAll, iAla, iAlen, iAst, iAsl, iAsa, iNewa, iNewq, iCopy, iMax, iMin, iOI, iLfl_eq, iSw, iCmp, iCallS, iCallI, iCallV, cond_eq_ite] at hs
  all_goals (repeat' split at hs)
  all_goals (cases hs)
  all_goals rfl
end IMono

theorem iRun_mono {E : iExtT} {P : Nat → Option iMeth} : ∀ (f d : Nat) (M : iMeth) (c : iCfg) (o : iRes), iRun E P f d M c = some o → c.2.2.2.length ≤ o.2.length ∧ iSl c.2.2.2 ≤ iSl o.2 := by
  intro f
  induction f with
  | zero => intro d M c o h; cases h
  | succ f ih =>
    intro d M c o h
    obtain ⟨pc, L, S, hh⟩ := c
    simp only [iRun, iStep] at h
    split at h
    · cases h
    · rename_i c' hs
      split at hs
      · have h1 := iEx_mono hs
        have h2 := ih _ _ _ _ h
        exact ⟨Nat.le_trans h1.1 h2.1, Nat.le_trans h1.2 h2.2⟩
      · cases hs
    · cases h
      exact ⟨Nat.le_refl _, Nat.le_refl _⟩
    · rename_i n as c' hs
      split at hs
      · have h0 := iEx_call hs
        split at h
        · cases h
        · split at h
          · cases h
          · rename_i C _
            cases hg : Nat.ble (iCat as) C.2.2.1 with
            | false => rw [hg] at h; cases h
            | true =>
              rw [hg] at h
              simp only [cond_true] at h
              split at h
              · cases h
              · rename_i hr
                have h1 := ih _ _ _ _ hr
                have h2 := ih _ _ _ _ h
                dsimp only at h1 h2
                rw [h0] at h1
                exact ⟨Nat.le_trans h1.1 h2.1, Nat.le_trans h1.2 h2.2⟩
      · cases hs
section ICalls
variable {p : Program} {l : Launch} {e : Env} {R : Room} {s : State} {m : MethodId} {args : Array Value} {below : List Frame} {meth : Method} {cd : Code} {Q : State → Prop} {cc : ByteArray} {B b dg n0 z0 nL Ls : Nat} {xs : Nat → Int32} {tc : Nat → ClassId} {dC : Nat → ClassId} {dI : Nat → Nat → Nat} {pc nx : Nat} {L : List (Nat × Value)} {S : List Value} {h : List va_E} {c' : iCfg}
def iSp : Cond → Bool
  | .methodLinkNest _ _ _ _ => true
  | .arrayOver (.object _) => true
  | _ => false
theorem lw_cls : lw_tbl.all (fun w => !iUse w || (goodWord w || iSp w)) = true := by decide +kernel
def iN (U : State) : Prop := ∀ w ∈ lw_tbl, iSp w = true → w.before #[] U = true
theorem iN_warm {U V : State} (hW : U.WarmedH V.vm) (h : iN U) : iN V := by
  intro w hw hs
  have h1 := h w hw hs
  cases w with
  | methodLinkNest a i x host => exact va_Nw.warmM hW h1
  | arrayOver t =>
    cases t with
    | object C => exact va_AO.moved hW.alike h1
    | _ => cases hs
  | _ => cases hs
theorem iN_same {U V : State} (hW : U.vm = V.vm) (h : iN U) : iN V := by
  intro w hw hs
  have h1 := h w hw hs
  cases w with
  | methodLinkNest a i x host => exact va_Nw.same rfl hW h1
  | arrayOver t =>
    cases t with
    | object C => exact va_AO.moved (hW ▸ Vm.Alike.refl U.vm) h1
    | _ => cases hs
  | _ => cases hs
theorem iN_use {w : Cond} (hs : iSp w = true) {A : Array Value} {U : State} (h : w.before #[] U = true) : w.before A U = true := by
  cases w with
  | methodLinkNest a i x host => exact va_Nw.use rfl h
  | arrayOver t =>
    cases t with
    | object C => exact va_AO.use h
    | _ => cases hs
  | _ => cases hs
def iPc (B b dg Ls : Nat) (xs : Nat → Int32) (tc dC : Nat → ClassId) (dI : Nat → Nat → Nat) (as : List Value) (h : List va_E) : Array Value → State → Prop := va_Pc (as.map (iv B b dg)) (fun U => U.heap.size = B + h.length ∧ va_P (dC, dI) vwCl (iw B b dg tc h) U.heap ∧ iG B b dg Ls xs tc dC dI U U.heap ∧ iN U)
def iQc (B b dg : Nat) (tc dC : Nat → ClassId) (dI : Nat → Nat → Nat) (r : Option Value) (h' : List va_E) : Array Value → State → Outcome → State → Prop := fun _ st oc t => oc = .returned (r.map (iv B b dg)) ∧ va_P (dC, dI) vwCl (iw B b dg tc h') t.heap ∧ va_F (fun q => B ≤ q) st t
theorem iG_moved {U V : State} {H : Heap} (hvm : U.vm.Alike V.vm) (h : iG B b dg Ls xs tc dC dI U H) : iG B b dg Ls xs tc dC dI V H :=
  ⟨h.1.moved hvm, ⟨h.2.1.1, h.2.1.2.moved hvm⟩, h.2.2.1.moved hvm, h.2.2.2.moved hvm⟩
theorem iG_kept {U : State} {H H1 : Heap} (h : iG B b dg Ls xs tc dC dI U H) (hq : ∀ a : Nat, a < H.size → ¬ B ≤ a → H1[a]? = H[a]?) : iG B b dg Ls xs tc dC dI U H1 :=
  ⟨h.1, ⟨h.2.1.1, h.2.1.2.kept (by
    obtain ⟨scr, h1, -⟩ := h.2.1.2
    exact hq b (Array.getElem?_eq_some_iff.mp h1).1 (by have := h.2.1.1; omega))⟩, h.2.2.1.kept hq, h.2.2.2.kept hq⟩
theorem iPc_blind {as : List Value} : FrameBlind (iPc B b dg Ls xs tc dC dI as h) := by
  intro a U g mk q
  obtain ⟨q0, q1, q2, q3, q4⟩ := q
  exact ⟨q0, q1, q2, iG_moved (U := U) (V := U.calling g mk a) (Vm.Alike.refl U.vm) q3, iN_same (U := U) (V := U.calling g mk a) rfl q4⟩
theorem i_after {H : Heap} {locs : List Loc} {cells slots mc ms : Nat} {ls : Array Slot} {st0 rest : List Value} {r : Option Value} {h' : List va_E} {a : Array Value} (hr : va_Run p l e R s m args below meth cd H locs cells slots mc ms (F0 m pc ls st0) rest (iQc B b dg tc dC dI r h' a) (fun q => B ≤ q)) (hS : va_S (fun q => B ≤ q) s.heap H locs) (kk : ∀ (H1 : Heap) (locs1 : List Loc), va_P (dC, dI) vwCl (iw B b dg tc h') H1 → va_S (fun q => B ≤ q) s.heap H1 locs1 → W p l e R s m args below meth cd H1 locs1 (cells + mc) (slots + ms) Q (F0 m (pc + 3) ls ((r.map (iv B b dg)).toList ++ rest))) : W p l e R s m args below meth cd H locs cells slots Q (F0 m pc ls st0) := by
  intro T hT X
  obtain ⟨v, st₀, t, T', L', g0, X', hL, e1, e2, ⟨hv, hP', hz, hk⟩, st⟩ := hr T hT X
  cases hv
  rw [g0] at hz hk
  obtain ⟨t2, a1, b1⟩ := kk T'.heap (locs ++ L') (by rw [e1]; exact hP') ⟨Nat.le_trans hS.1 (by rw [e1]; exact hz), fun q h1 h2 => by rw [e1, hk q (Nat.lt_of_lt_of_le h1 hS.1) h2]; exact hS.2.1 q h1 h2, fun q hq => by
      rcases List.mem_append.mp hq with h | h
      · exact hS.2.2 q h
      · exact hL q h⟩ T' rfl X'
  exact ⟨t2, st t2 a1, b1⟩
theorem iTake_spec : ∀ (k : Nat) (acc S as S' : List Value), iTake k acc S = some (as, S') → ∃ t : List Value, as = t ++ acc ∧ t.length = k ∧ S = t.reverse ++ S' := by
  intro k
  induction k with
  | zero => intro acc S as S' h; cases h; exact ⟨[], rfl, rfl, rfl⟩
  | succ k ih =>
    intro acc S as S' h
    cases S with
    | nil => cases h
    | cons v S =>
      obtain ⟨t, h1, h2, h3⟩ := ih (v :: acc) S as S' h
      exact ⟨t ++ [v], by rw [h1]; simp, by simp [h2], by rw [h3]; simp⟩
abbrev iRm (d : Nat) (h h' : List va_E) : Room := { frames := d + 1, cells := h'.length - h.length, slots := iSl h' - iSl h, locals := 40 * d + 30 }
abbrev iWs (C : iMeth) : List Cond := Cond.code (iMy C) (iMb C) (iMl C) (iMr C) :: lw_tbl.filter goodWord
theorem iWs_good {C : iMeth} (hts : ∀ w ∈ lw_tbl, iUse w = true → w.before args s = true) (hC : Cond.code (iMy C) (iMb C) (iMl C) (iMr C) ∈ lw_tbl) : ∀ w ∈ iWs C, ∀ (a' : Array Value) (U : State), s.WarmedH U.vm → w.before a' U = true := by
  intro w hw a' U hW
  have hm : w ∈ lw_tbl ∧ goodWord w = true := by
    rcases List.mem_cons.mp hw with rfl | h
    · exact ⟨hC, rfl⟩
    · exact List.mem_filter.mp h
  have hu : iUse w = true := by
    cases w with
    | privateMethod x => cases hm.2
    | laysStatic a b c => cases hm.2
    | _ => rfl
  exact word_at hW (good_of_word hm.2) (hts w hm.1 hu)
theorem iOkM_spec {C : iMeth} (h : iOkM C = true) : plainName (iMy C).cls = true ∧ Cond.code (iMy C) (iMb C) (iMl C) (iMr C) ∈ lw_tbl ∧ Cond.initialized (iMy C).cls ∈ lw_tbl ∧ ((iMy C).cls ≠ "java/lang/invoke/MethodHandle" ∧ (iMy C).cls ≠ "java/lang/invoke/VarHandle") ∧ (∀ sig, parseMethodDescriptor (iMy C).desc = some sig → iMn C = sig.parameters.length) ∧ iMl C ≤ 21 ∧ iOkK C = true := by
  simp only [iOkM, Bool.and_eq_true, decide_eq_true_eq] at h
  obtain ⟨h1, h2, h3, h4, h5, h6, h7, h8⟩ := h
  refine ⟨h1, List.mem_of_getElem? h2, List.mem_of_getElem? h3, ⟨h4, h5⟩, fun sig hs => ?_, h7, h8⟩
  rw [hs] at h6
  exact (Option.some.inj h6).symm
theorem i_cb {C : iMeth} (hC : iOkM C = true) (hts : ∀ w ∈ lw_tbl, iUse w = true → w.before args s = true) {d : Nat} {h' : List va_E} (hRf : d + 2 ≤ R.frames) (hRl : 40 * (d + 1) + 30 ≤ R.locals) {own : String} {idx : Nat} (hl : (Cond.methodLink own idx (iMy C)).before args s = true) : CallB R s args own idx (iMy C) (iMb C) (iMl C) (iMr C) (iWs C) (iRm d h h') (h'.length - h.length) (iSl h' - iSl h) (iMn C) := by
  obtain ⟨h1, h2, h3, h4, h5, h6, h7⟩ := iOkM_spec hC
  exact ⟨rfl, rfl, hRf, by show 8 + (iMl C + 11) + (40 * d + 30) ≤ R.locals; omega, iWs_good hts h2, List.mem_cons_self, hts _ h2 rfl, hts _ h3 rfl, h4, h5, hl⟩
theorem i_cn {C : iMeth} (hC : iOkM C = true) (hts : ∀ w ∈ lw_tbl, iUse w = true → w.before args s = true) {d : Nat} {h' : List va_E} (hRf : d + 2 ≤ R.frames) (hRl : 40 * (d + 1) + 30 ≤ R.locals) {own : String} {idx : Nat} (hl : (Cond.methodLinkNest own idx (iMy C) "LogFlume").before args s = true) : va_CN R s args own idx (iMy C) "LogFlume" (iMb C) (iMl C) (iMr C) (iWs C) (iRm d h h') (h'.length - h.length) (iSl h' - iSl h) (iMn C) := by
  obtain ⟨h1, h2, h3, h4, h5, h6, h7⟩ := iOkM_spec hC
  exact ⟨⟨rfl, rfl, hRf, by show 8 + (iMl C + 11) + (40 * d + 30) ≤ R.locals; omega, iWs_good hts h2, List.mem_cons_self⟩, hts _ h2 rfl, hts _ h3 rfl, h4, h5, hl⟩
end ICalls
end
section
section ICalls2
variable {p : Program} {l : Launch} {e : Env} {R : Room} {s : State} {m : MethodId} {args : Array Value} {below : List Frame} {meth : Method} {cd : Code} {Q : State → Prop} {cc : ByteArray} {B b dg n0 z0 nL Ls : Nat} {xs : Nat → Int32} {tc : Nat → ClassId} {dC : Nat → ClassId} {dI : Nat → Nat → Nat} {pc nx : Nat} {L : List (Nat × Value)} {S : List Value} {h : List va_E} {c' : iCfg}

theorem iRt (r : Option Value) : r.toList.map (iv B b dg) = (r.map (iv B b dg)).toList := by cases r <;> rfl
theorem iSize {H : Heap} {locs : List Loc} (hP : va_P (dC, dI) vwCl (iw B b dg tc h) H) (hS : va_S (fun q => B ≤ q) s.heap H locs) (hs0 : s.heap.size = B + n0) (hb : H.size ≤ B + h.length) : H.size = B + h.length := by
  have h0 := hS.1
  rcases Nat.eq_zero_or_pos h.length with hz | hp
  · omega
  · have hlt : h.length - 1 < h.length := by omega
    have := (hP (h.length - 1) (B + (h.length - 1), iE B b dg tc h[h.length - 1]) (by rw [iw_get, List.getElem?_eq_getElem hlt]; rfl)).lt
    dsimp only at this
    omega
theorem iPre {as : List Value} {H : Heap} {locs : List Loc} (hP : va_P (dC, dI) vwCl (iw B b dg tc h) H) (hS : va_S (fun q => B ≤ q) s.heap H locs) (hz : H.size = B + h.length) (hG : iG B b dg Ls xs tc dC dI s s.heap) (hN : iN s) (U : State) (hU : U.heap = H) (hW : s.WarmedH U.vm) : iPc B b dg Ls xs tc dC dI as h (as.map (iv B b dg)).toArray U := by
  refine ⟨rfl, by rw [hU]; exact hz, by rw [hU]; exact hP, ?_, iN_warm hW hN⟩
  rw [hU]
  exact iG_kept (iG_moved hW.alike hG) hS.2.1

theorem is_callV {C : iMeth} (hC : iOkM C = true) (hk10 : 10 ≤ iMk C) (hx : p.tables.exec = Jvm.exec) (hb : cd.code = cc) (hml : cd.maxLocals = nL) {own : String} (hown : s.vm.findClass own = some m.cls) (hts : ∀ w ∈ lw_tbl, iUse w = true → w.before args s = true) (hG : iG B b dg Ls xs tc dC dI s s.heap) (hN : iN s) (hs0 : s.heap.size = B + n0) {d : Nat} (hRf : d + 2 ≤ R.frames) (hRl : 40 * (d + 1) + 30 ≤ R.locals) {i pos res n : Nat} {as : List Value} {r : Option Value} {h' : List va_E} (hw : lw_tbl[pos]? = some (.methodLink own i (iMy C))) (hd : decode cc pc = .ok (.invokevirtual i, 3)) (hs : iCallV (iMn C + 1) (iMk C) (pc + 3) res L S h = some (.inr (.inl (n, as, c')))) (hM : Met l (iMy C) (iWs C) (iRm d h h') (iPc B b dg Ls xs tc dC dI as h) (iQc B b dg tc dC dI r h') (h'.length - h.length) (iSl h' - iSl h) (fun q => B ≤ q)) (hmono : h.length ≤ h'.length ∧ iSl h ≤ iSl h') (hcl : h'.length ≤ n0 + R.cells) (hsl : iSl h' ≤ z0 + R.slots) (k : iAt p l e R s m args below meth cd Q B b dg n0 z0 nL tc dC dI (c'.1, c'.2.1, r.toList ++ c'.2.2.1, h')) : iAt p l e R s m args below meth cd Q B b dg n0 z0 nL tc dC dI (pc, L, S, h) := by
  unfold iCallV at hs
  split at hs
  · rename_i a as' S' htk
    split at hs
    · rename_i o ci fs ha
      cases hq : (Nat.beq (ci + 10) (iMk C) && Nat.ble (iCat S') 8) with
      | false => rw [hq] at hs; cases hs
      | true =>
        rw [hq] at hs
        cases hs
        rw [Bool.and_eq_true] at hq
        have hci := Nat.eq_of_beq_eq_true hq.1
        have hcat := Nat.le_of_ble_eq_true hq.2
        obtain ⟨t, ht1, ht2, ht3⟩ := iTake_spec _ _ _ _ _ htk
        rw [List.append_nil] at ht1
        subst ht1
        subst ht3
        have hkk := (iOkM_spec hC).2.2.2.2.2.2
        unfold iOkK at hkk
        rw [if_neg (by omega), if_neg (by omega)] at hkk
        simp only [Bool.and_eq_true, decide_eq_true_eq] at hkk
        obtain ⟨hi1, hi2, hi3⟩ := hkk
        intro H locs cells slots ls h1 h2 hl hP hS
        dsimp only at h1 h2
        refine W.bound fun hbd => ?_
        have hz : H.size = B + h.length := iSize hP hS hs0 (by omega)
        have hrec : ∃ cellB : Cell, H[B + a]? = some cellB ∧ cellB.vm.isStatics = false ∧ s.vm.findClass (iMy C).cls = some cellB.cls := by
          rw [show iMk C - 10 = ci by omega] at hi3
          split at hi3
          · rename_i q hq2
            rw [← of_decide_eq_true hi3]
            exact va_recv hG.1 hP hq2 (iw_at ha)
          · cases hi3
        refine i_after (va_runV (Ts := []) (As := as'.map (iv B b dg)) (rest := S'.map (iv B b dg)) (b := B + a) ⟨hx, hb, hml, hown, fun _ h9 => absurd h9 List.not_mem_nil⟩ hM ⟨i_cb hC hts hRf hRl (hts _ (List.mem_of_getElem? hw) rfl), hts _ (List.mem_of_getElem? hi1) rfl, hts _ (List.mem_of_getElem? hi2) rfl⟩ ⟨iPc_blind, hrec, fun U hU hW => iPre (as := .ref a :: as') hP hS hz hG hN U hU hW⟩ rfl (by simpa using ht2) hl.1 (by show List.map (iv B b dg) _ = _; simp [iv]) (by rw [← iCat_eq B b dg] at hcat; exact lv_room hcat) hd ⟨by omega, by omega⟩) hS (fun H1 locs1 hP1 hS1 => ?_)
        have hk := k H1 locs1 (cells + (h'.length - h.length)) (slots + (iSl h' - iSl h)) ls (by dsimp only; omega) (by dsimp only; omega) hl hP1 hS1
        rw [List.map_append, iRt] at hk
        exact hk
    · cases hs
  · cases hs

theorem is_callS {C : iMeth} (hC : iOkM C = true) (hk0 : iMk C = 0) (hx : p.tables.exec = Jvm.exec) (hb : cd.code = cc) (hml : cd.maxLocals = nL) {own : String} (hown : s.vm.findClass own = some m.cls) (hts : ∀ w ∈ lw_tbl, iUse w = true → w.before args s = true) (hG : iG B b dg Ls xs tc dC dI s s.heap) (hN : iN s) (hs0 : s.heap.size = B + n0) {d : Nat} (hRf : d + 2 ≤ R.frames) (hRl : 40 * (d + 1) + 30 ≤ R.locals) {i pos res n : Nat} {as : List Value} {r : Option Value} {h' : List va_E} (hw : lw_tbl[pos]? = some (.methodLink own i (iMy C))) (hd : decode cc pc = .ok (.invokestatic i, 3)) (hs : iCallS (iMn C) (pc + 3) res L S h = some (.inr (.inl (n, as, c')))) (hM : Met l (iMy C) (iWs C) (iRm d h h') (iPc B b dg Ls xs tc dC dI as h) (iQc B b dg tc dC dI r h') (h'.length - h.length) (iSl h' - iSl h) (fun q => B ≤ q)) (hmono : h.length ≤ h'.length ∧ iSl h ≤ iSl h') (hcl : h'.length ≤ n0 + R.cells) (hsl : iSl h' ≤ z0 + R.slots) (k : iAt p l e R s m args below meth cd Q B b dg n0 z0 nL tc dC dI (c'.1, c'.2.1, r.toList ++ c'.2.2.1, h')) : iAt p l e R s m args below meth cd Q B b dg n0 z0 nL tc dC dI (pc, L, S, h) := by
  unfold iCallS at hs
  split at hs
  · rename_i as' S' htk
    cases hq : Nat.ble (iCat S') 8 with
    | false => rw [hq] at hs; cases hs
    | true =>
      rw [hq] at hs
      cases hs
      have hcat := Nat.le_of_ble_eq_true hq
      obtain ⟨t, ht1, ht2, ht3⟩ := iTake_spec _ _ _ _ _ htk
      rw [List.append_nil] at ht1
      subst ht1
      subst ht3
      have hkk := (iOkM_spec hC).2.2.2.2.2.2
      unfold iOkK at hkk
      rw [if_pos hk0] at hkk
      simp only [decide_eq_true_eq] at hkk
      intro H locs cells slots ls h1 h2 hl hP hS
      dsimp only at h1 h2
      refine W.bound fun hbd => ?_
      have hz : H.size = B + h.length := iSize hP hS hs0 (by omega)
      refine i_after (va_runS (Ts := []) (As := as.map (iv B b dg)) (rest := S'.map (iv B b dg)) ⟨hx, hb, hml, hown, fun _ h9 => absurd h9 List.not_mem_nil⟩ hM ⟨i_cb hC hts hRf hRl (hts _ (List.mem_of_getElem? hw) rfl), hts _ (List.mem_of_getElem? hkk) rfl⟩ ⟨iPc_blind, fun U hU hW => iPre (as := as) hP hS hz hG hN U hU hW⟩ rfl (by simpa using ht2) hl.1 (by show List.map (iv B b dg) _ = _; simp [iv]) (by rw [← iCat_eq B b dg] at hcat; exact lv_room hcat) hd ⟨by omega, by omega⟩) hS (fun H1 locs1 hP1 hS1 => ?_)
      have hk := k H1 locs1 (cells + (h'.length - h.length)) (slots + (iSl h' - iSl h)) ls (by dsimp only; omega) (by dsimp only; omega) hl hP1 hS1
      rw [List.map_append, iRt] at hk
      exact hk
  · cases hs

theorem is_callSN {C : iMeth} (hC : iOkM C = true) (hk0 : iMk C = 0) (hx : p.tables.exec = Jvm.exec) (hb : cd.code = cc) (hml : cd.maxLocals = nL) {own : String} (hown : s.vm.findClass own = some m.cls) (hts : ∀ w ∈ lw_tbl, iUse w = true → w.before args s = true) (hG : iG B b dg Ls xs tc dC dI s s.heap) (hN : iN s) (hs0 : s.heap.size = B + n0) {d : Nat} (hRf : d + 2 ≤ R.frames) (hRl : 40 * (d + 1) + 30 ≤ R.locals) {i pos res n : Nat} {as : List Value} {r : Option Value} {h' : List va_E} (hw : lw_tbl[pos]? = some (.methodLinkNest own i (iMy C) "LogFlume")) (hd : decode cc pc = .ok (.invokestatic i, 3)) (hs : iCallS (iMn C) (pc + 3) res L S h = some (.inr (.inl (n, as, c')))) (hM : Met l (iMy C) (iWs C) (iRm d h h') (iPc B b dg Ls xs tc dC dI as h) (iQc B b dg tc dC dI r h') (h'.length - h.length) (iSl h' - iSl h) (fun q => B ≤ q)) (hmono : h.length ≤ h'.length ∧ iSl h ≤ iSl h') (hcl : h'.length ≤ n0 + R.cells) (hsl : iSl h' ≤ z0 + R.slots) (k : iAt p l e R s m args below meth cd Q B b dg n0 z0 nL tc dC dI (c'.1, c'.2.1, r.toList ++ c'.2.2.1, h')) : iAt p l e R s m args below meth cd Q B b dg n0 z0 nL tc dC dI (pc, L, S, h) := by
  unfold iCallS at hs
  split at hs
  · rename_i as' S' htk
    cases hq : Nat.ble (iCat S') 8 with
    | false => rw [hq] at hs; cases hs
    | true =>
      rw [hq] at hs
      cases hs
      have hcat := Nat.le_of_ble_eq_true hq
      obtain ⟨t, ht1, ht2, ht3⟩ := iTake_spec _ _ _ _ _ htk
      rw [List.append_nil] at ht1
      subst ht1
      subst ht3
      have hkk := (iOkM_spec hC).2.2.2.2.2.2
      unfold iOkK at hkk
      rw [if_pos hk0] at hkk
      simp only [decide_eq_true_eq] at hkk
      intro H locs cells slots ls h1 h2 hl hP hS
      dsimp only at h1 h2
      refine W.bound fun hbd => ?_
      have hz : H.size = B + h.length := iSize hP hS hs0 (by omega)
      refine i_after (va_runSN (Ts := []) (As := as.map (iv B b dg)) (rest := S'.map (iv B b dg)) ⟨hx, hb, hml, hown, fun _ h9 => absurd h9 List.not_mem_nil⟩ hM ⟨i_cn hC hts hRf hRl (hts _ (List.mem_of_getElem? hw) rfl), hts _ (List.mem_of_getElem? hkk) rfl, trivial⟩ ⟨iPc_blind, fun U hU hW => iPre (as := as) hP hS hz hG hN U hU hW⟩ rfl (by simpa using ht2) hl.1 (by show List.map (iv B b dg) _ = _; simp [iv]) (by rw [← iCat_eq B b dg] at hcat; exact lv_room hcat) hd ⟨by omega, by omega⟩) hS (fun H1 locs1 hP1 hS1 => ?_)
      have hk := k H1 locs1 (cells + (h'.length - h.length)) (slots + (iSl h' - iSl h)) ls (by dsimp only; omega) (by dsimp only; omega) hl hP1 hS1
      rw [List.map_append, iRt] at hk
      exact hk
  · cases hs

theorem is_callI {C : iMeth} (hC : iOkM C = true) (hk2 : iMk C = 2) (hx : p.tables.exec = Jvm.exec) (hb : cd.code = cc) (hml : cd.maxLocals = nL) {own : String} (hown : s.vm.findClass own = some m.cls) (hts : ∀ w ∈ lw_tbl, iUse w = true → w.before args s = true) (hG : iG B b dg Ls xs tc dC dI s s.heap) (hN : iN s) (hs0 : s.heap.size = B + n0) {d : Nat} (hRf : d + 2 ≤ R.frames) (hRl : 40 * (d + 1) + 30 ≤ R.locals) {i pos res n : Nat} {as : List Value} {r : Option Value} {h' : List va_E} (hw : lw_tbl[pos]? = some (.methodLink own i (iMy C))) (hd : decode cc pc = .ok (.invokespecial i, 3)) (hs : iCallI (iMn C + 1) (pc + 3) res L S h = some (.inr (.inl (n, as, c')))) (hM : Met l (iMy C) (iWs C) (iRm d h h') (iPc B b dg Ls xs tc dC dI as h) (iQc B b dg tc dC dI r h') (h'.length - h.length) (iSl h' - iSl h) (fun q => B ≤ q)) (hmono : h.length ≤ h'.length ∧ iSl h ≤ iSl h') (hcl : h'.length ≤ n0 + R.cells) (hsl : iSl h' ≤ z0 + R.slots) (k : iAt p l e R s m args below meth cd Q B b dg n0 z0 nL tc dC dI (c'.1, c'.2.1, r.toList ++ c'.2.2.1, h')) : iAt p l e R s m args below meth cd Q B b dg n0 z0 nL tc dC dI (pc, L, S, h) := by
  unfold iCallI at hs
  split at hs
  · rename_i a as' S' htk
    cases hq : Nat.ble (iCat S') 8 with
    | false => rw [hq] at hs; cases hs
    | true =>
      rw [hq] at hs
      cases hs
      have hcat := Nat.le_of_ble_eq_true hq
      obtain ⟨t, ht1, ht2, ht3⟩ := iTake_spec _ _ _ _ _ htk
      rw [List.append_nil] at ht1
      subst ht1
      subst ht3
      have hkk := (iOkM_spec hC).2.2.2.2.2.2
      unfold iOkK at hkk
      rw [if_neg (by omega), if_pos hk2] at hkk
      simp only [Bool.and_eq_true, decide_eq_true_eq] at hkk
      obtain ⟨hi1, hi2, hi3⟩ := hkk
      intro H locs cells slots ls h1 h2 hl hP hS
      dsimp only at h1 h2
      refine W.bound fun hbd => ?_
      have hz : H.size = B + h.length := iSize hP hS hs0 (by omega)
      have cb := i_cb (h := h) (h' := h') hC hts hRf hRl (hts _ (List.mem_of_getElem? hw) rfl)
      rw [hi3] at cb
      refine i_after (va_runI (Ts := []) (As := as'.map (iv B b dg)) (rest := S'.map (iv B b dg)) (b := B + a) ⟨hx, hb, hml, hown, fun _ h9 => absurd h9 List.not_mem_nil⟩ hM ⟨cb, hi2, hts _ (List.mem_of_getElem? hi1) rfl⟩ ⟨iPc_blind, fun U hU hW => iPre (as := .ref a :: as') hP hS hz hG hN U hU hW⟩ rfl (by simpa using ht2) hl.1 (by show List.map (iv B b dg) _ = _; simp [iv]) (by rw [← iCat_eq B b dg] at hcat; exact lv_room hcat) hd ⟨by omega, by omega⟩) hS (fun H1 locs1 hP1 hS1 => ?_)
      have hk := k H1 locs1 (cells + (h'.length - h.length)) (slots + (iSl h' - iSl h)) ls (by dsimp only; omega) (by dsimp only; omega) hl hP1 hS1
      rw [List.map_append, iRt] at hk
      exact hk
  · cases hs

theorem is_callIN {C : iMeth} (hC : iOkM C = true) (hk2 : iMk C = 2) (hx : p.tables.exec = Jvm.exec) (hb : cd.code = cc) (hml : cd.maxLocals = nL) {own : String} (hown : s.vm.findClass own = some m.cls) (hts : ∀ w ∈ lw_tbl, iUse w = true → w.before args s = true) (hG : iG B b dg Ls xs tc dC dI s s.heap) (hN : iN s) (hs0 : s.heap.size = B + n0) {d : Nat} (hRf : d + 2 ≤ R.frames) (hRl : 40 * (d + 1) + 30 ≤ R.locals) {i pos res n : Nat} {as : List Value} {r : Option Value} {h' : List va_E} (hw : lw_tbl[pos]? = some (.methodLinkNest own i (iMy C) "LogFlume")) (hd : decode cc pc = .ok (.invokespecial i, 3)) (hs : iCallI (iMn C + 1) (pc + 3) res L S h = some (.inr (.inl (n, as, c')))) (hM : Met l (iMy C) (iWs C) (iRm d h h') (iPc B b dg Ls xs tc dC dI as h) (iQc B b dg tc dC dI r h') (h'.length - h.length) (iSl h' - iSl h) (fun q => B ≤ q)) (hmono : h.length ≤ h'.length ∧ iSl h ≤ iSl h') (hcl : h'.length ≤ n0 + R.cells) (hsl : iSl h' ≤ z0 + R.slots) (k : iAt p l e R s m args below meth cd Q B b dg n0 z0 nL tc dC dI (c'.1, c'.2.1, r.toList ++ c'.2.2.1, h')) : iAt p l e R s m args below meth cd Q B b dg n0 z0 nL tc dC dI (pc, L, S, h) := by
  unfold iCallI at hs
  split at hs
  · rename_i a as' S' htk
    cases hq : Nat.ble (iCat S') 8 with
    | false => rw [hq] at hs; cases hs
    | true =>
      rw [hq] at hs
      cases hs
      have hcat := Nat.le_of_ble_eq_true hq
      obtain ⟨t, ht1, ht2, ht3⟩ := iTake_spec _ _ _ _ _ htk
      rw [List.append_nil] at ht1
      subst ht1
      subst ht3
      have hkk := (iOkM_spec hC).2.2.2.2.2.2
      unfold iOkK at hkk
      rw [if_neg (by omega), if_pos hk2] at hkk
      simp only [Bool.and_eq_true, decide_eq_true_eq] at hkk
      obtain ⟨hi1, hi2, hi3⟩ := hkk
      intro H locs cells slots ls h1 h2 hl hP hS
      dsimp only at h1 h2
      refine W.bound fun hbd => ?_
      have hz : H.size = B + h.length := iSize hP hS hs0 (by omega)
      have cb := i_cn (h := h) (h' := h') hC hts hRf hRl (hts _ (List.mem_of_getElem? hw) rfl)
      rw [hi3] at cb
      refine i_after (va_runIN (Ts := []) (As := as'.map (iv B b dg)) (rest := S'.map (iv B b dg)) (b := B + a) ⟨hx, hb, hml, hown, fun _ h9 => absurd h9 List.not_mem_nil⟩ hM ⟨cb, hi2, hts _ (List.mem_of_getElem? hi1) rfl⟩ ⟨iPc_blind, fun U hU hW => iPre (as := .ref a :: as') hP hS hz hG hN U hU hW⟩ rfl (by simpa using ht2) hl.1 (by show List.map (iv B b dg) _ = _; simp [iv]) (by rw [← iCat_eq B b dg] at hcat; exact lv_room hcat) hd ⟨by omega, by omega⟩) hS (fun H1 locs1 hP1 hS1 => ?_)
      have hk := k H1 locs1 (cells + (h'.length - h.length)) (slots + (iSl h' - iSl h)) ls (by dsimp only; omega) (by dsimp only; omega) hl hP1 hS1
      rw [List.map_append, iRt] at hk
      exact hk
  · cases hs

end ICalls2
end
section
section ISim
variable {p : Program} {l : Launch} {e : Env} {R : Room} {s : State} {m : MethodId} {args : Array Value} {below : List Frame} {meth : Method} {cd : Code} {Q : State → Prop} {B b dg n0 z0 Ls : Nat} {xs : Nat → Int32} {tc : Nat → ClassId} {dC : Nat → ClassId} {dI : Nat → Nat → Nat} {pc nx : Nat} {L : List (Nat × Value)} {S : List Value} {h : List va_E} {c' : iCfg}
theorem iOkF_spec {M : iMeth} {res pos i : Nat} (h : iOkF M res pos i = true) : ∃ q : vw_C, vwCl[res / 64]? = some q ∧ res % 64 < q.2.2 ∧ lw_tbl[pos]? = some (.fieldLink (iMy M).cls i (q.2.1 (res % 64)).1 (q.2.1 (res % 64)).2.1 (q.2.1 (res % 64)).2.2.1) := by
  unfold iOkF at h
  split at h
  · rename_i q hq
    simp only [Bool.and_eq_true, decide_eq_true_eq] at h
    exact ⟨q, hq, h.1, h.2⟩
  · cases h
theorem iOkFin_spec {M : iMeth} {res : Nat} {q : vw_C} (hq : vwCl[res / 64]? = some q) (h : iOkFin M res = true) : (q.2.1 (res % 64)).2.2.2 = true → (iMy M).name = "<init>" ∧ (q.2.1 (res % 64)).1 = (iMy M).cls := by
  intro hf
  unfold iOkFin at h
  rw [hq] at h
  simp only [hf, Bool.not_true, Bool.false_or, Bool.and_eq_true, decide_eq_true_eq] at h
  exact h
theorem iSim {P : Nat → Option iMeth} {M : iMeth} (hx : p.tables.exec = Jvm.exec) (hb : cd.code = iMb M) (hml : cd.maxLocals = iMl M) (hown : s.vm.findClass (iMy M).cls = some m.cls) (hinit : (iMy M).name = "<init>" → meth.name = "<init>") (hts : ∀ w ∈ lw_tbl, iUse w = true → w.before args s = true) (hG : iG B b dg Ls xs tc dC dI s s.heap) (hs0 : s.heap.size = B + n0) (hRf : 1 ≤ R.frames) (hRl : 30 ≤ R.locals) {en : iEnt} (ho : iOkE P M pc en = true) (hs : iEx (iExt Ls xs) (iNp P) (iNk P) (iMr M) pc en L S h = some (.inl c')) (hcl : c'.2.2.2.length ≤ n0 + R.cells) (hsl : iSl c'.2.2.2 ≤ z0 + R.slots) (k : iAt p l e R s m args below meth cd Q B b dg n0 z0 (iMl M) tc dC dI c') : iAt p l e R s m args below meth cd Q B b dg n0 z0 (iMl M) tc dC dI (pc, L, S, h) := by
  obtain ⟨ins, nx, res, val, pos⟩ := en
  simp only [iOkE, Bool.and_eq_true, Bool.or_eq_true, decide_eq_true_eq] at ho
  obtain ⟨hd0, ho⟩ := ho
  cases ins <;> simp only [iEx] at hs <;> first | (cases hs; done) | skip
  all_goals simp only [iIsSw, iLen, Bool.false_eq_true, false_or] at hd0
  all_goals try (obtain ⟨hnx, hd⟩ := hd0; subst hnx)
  all_goals try simp only [iOkI, Bool.and_eq_true, Bool.or_eq_true, decide_eq_true_eq] at ho
  case aaload => exact is_aaload hx hb hG.1 hd hs k
  case aastore => exact is_aastore hx hb hG.1 hd hs k
  case aload i => exact is_aload hx hb hd hs k
  case aload_n i => exact is_aload_n hx hb hd hs k
  case anewarray i =>
    rcases ho with ⟨rfl, hw⟩ | ⟨rfl, hw⟩
    · exact is_anew2 hx hb hts hown hG.1 hs0 hw hd hs hcl hsl k
    · exact is_anew3 hx hb hts hown hG.1 hs0 hw hd hs hcl hsl k
  case arraylength => exact is_alen hx hb hG hs0 hd hs k
  case astore i => exact is_astore hx hb ho hd hs k
  case astore_n i => exact is_astore_n hx hb ho hd hs k
  case bipush n => subst ho; cases hs; exact is_bipush hx hb hd k
  case dup => exact is_dup hx hb hd hs k
  case dup2 => exact is_dup2 hx hb hd hs k
  case getfield i =>
    obtain ⟨q, h1, h2, h3⟩ := iOkF_spec ho
    exact is_getfield hx hb hts hown hG.1 h1 h2 h3 hd hs k
  case getstatic i => cases hs; exact is_getstatic hx hb hown (hts _ (List.mem_of_getElem? ho) rfl) hG hd k
  case goto off => cases hs; exact is_goto hx hb ho hd k
  case i2b => exact is_i2b hx hb hd hs k
  case i2l => exact is_i2l hx hb hd hs k
  case i2s => exact is_i2s hx hb hd hs k
  case iadd => exact is_iadd hx hb hd hs k
  case iaload => exact is_iaload hx hb hG hs0 hd hs k
  case iand => exact is_iand hx hb hd hs k
  case iastore => exact is_iastore hx hb hG.1 hd hs k
  case iconst n => subst ho; cases hs; exact is_iconst hx hb hd k
  case idiv => exact is_idiv hx hb hd hs k
  case if_icmp cn off => exact is_if_icmp hx hb ho hd hs k
  case ifCond cn off => exact is_ifCond hx hb ho hd hs k
  case iinc i n => exact is_iinc hx hb ho.2 ho.1 hd hs k
  case iload i => exact is_iload hx hb hd hs k
  case iload_n i => exact is_iload_n hx hb hd hs k
  case imul => exact is_imul hx hb hd hs k
  case invokespecial i =>
    split at hs
    · rename_i hr
      rw [if_pos hr, decide_eq_true_eq] at ho
      exact is_objinit hx hb hml hts hown hRf hRl ho hd hs k
    · unfold iCallI at hs
      split at hs
      · cases hq : Nat.ble (iCat _) 8 with
        | false => rw [hq] at hs; cases hs
        | true => rw [hq] at hs; cases hs
      · cases hs
  case invokestatic i =>
    split at hs
    · rename_i hr
      rw [if_pos hr, decide_eq_true_eq] at ho
      exact is_copy hx hb hml hts hown hG.1 hRf hRl ho hd hs k
    · rename_i hr
      rw [if_neg hr] at ho
      split at hs
      · rename_i hr
        rw [if_pos hr, decide_eq_true_eq] at ho
        exact is_mmax hx hb hml hts hown hRf hRl ho hd hs hcl hsl k
      · rename_i hr
        rw [if_neg hr] at ho
        split at hs
        · rename_i hr
          rw [if_pos hr, decide_eq_true_eq] at ho
          exact is_mmin hx hb hml hts hown hRf hRl ho hd hs hcl hsl k
        · simp only [iCallS, cond_eq_ite] at hs
          repeat' split at hs
          all_goals cases hs
  case invokevirtual i =>
    simp only [iCallV, cond_eq_ite] at hs
    repeat' split at hs
    all_goals cases hs
  case ior => exact is_ior hx hb hd hs k
  case irem => exact is_irem hx hb hd hs k
  case ireturn =>
    repeat' split at hs
    all_goals cases hs
  case ishl => exact is_ishl hx hb hd hs k
  case ishr => exact is_ishr hx hb hd hs k
  case istore i => exact is_istore hx hb ho hd hs k
  case istore_n i => exact is_istore_n hx hb ho hd hs k
  case isub => exact is_isub hx hb hd hs k
  case iushr => exact is_iushr hx hb hd hs k
  case ixor => exact is_ixor hx hb hd hs k
  case ladd => exact is_ladd hx hb hd hs k
  case laload => exact is_laload hx hb hG.1 hd hs k
  case lastore => exact is_lastore hx hb hG.1 hd hs k
  case lcmp => exact is_lcmp hx hb hd hs k
  case lconst n => subst ho; cases hs; exact is_lconst hx hb hd k
  case ldc i =>
    split at ho
    · rw [decide_eq_true_eq] at ho
      cases hs; exact is_ldc hx hb hown (hts _ (List.mem_of_getElem? ho) rfl) hd k
    · cases ho
  case ldc_w i =>
    split at ho
    · rw [decide_eq_true_eq] at ho
      cases hs; exact is_ldc_w hx hb hown (hts _ (List.mem_of_getElem? ho) rfl) hd k
    · cases ho
  case ldc2_w i =>
    split at ho
    · rw [decide_eq_true_eq] at ho
      cases hs; exact is_ldc2_w hx hb hown (hts _ (List.mem_of_getElem? ho) rfl) hd k
    · cases ho
  case ldiv => exact is_ldiv hx hb hd hs k
  case lload i => exact is_lload hx hb hd hs k
  case lload_n i => exact is_lload_n hx hb hd hs k
  case lmul => exact is_lmul hx hb hd hs k
  case lor => exact is_lor hx hb hd hs k
  case lrem => exact is_lrem hx hb hd hs k
  case lreturn =>
    repeat' split at hs
    all_goals cases hs
  case lshl => exact is_lshl hx hb hd hs k
  case lstore i => exact is_lstore hx hb ho hd hs k
  case lstore_n i => exact is_lstore_n hx hb ho hd hs k
  case lsub => exact is_lsub hx hb hd hs k
  case new i =>
    split at ho
    · rename_i q hq
      rw [decide_eq_true_eq] at ho
      cases hs
      exact is_new hx hb hts hown hG.1 hs0 hq ho hd hcl hsl k
    · cases ho
  case newarray ty => exact is_newarray hx hb hts hG.1 hs0 hd hs hcl hsl k
  case pop => exact is_pop hx hb hd hs k
  case putfield i =>
    obtain ⟨q, h1, h2, h3⟩ := iOkF_spec ho.1
    exact is_putfield hx hb hts hown hG.1 h1 h2 h3 (fun hf => ⟨hinit (iOkFin_spec h1 ho.2 hf).1, (iOkFin_spec h1 ho.2 hf).2⟩) hd hs k
  case return_ =>
    repeat' split at hs
    all_goals cases hs
  case sipush n => subst ho; cases hs; exact is_sipush hx hb hd k
  case tableswitch dflt lo hi offs => exact is_sw hx hb ho hs k
def iRetOk (ret : Option FieldType) (ins : Instr) (r : Option Value) : Prop := match r with
  | none => ins = .return_ ∧ ret = none
  | some (.int x) => ins = .ireturn ∧ (ret = some .int ∨ (ret = some .boolean ∧ (x = 0 ∨ x = 1)))
  | some (.long _) => ins = .lreturn ∧ ret = some .long
  | _ => False
theorem iEx_ret {E : iExtT} {P : Nat → Option iMeth} {np nk : Nat → Nat} {M : iMeth} {en : iEnt} {r : Option Value} (ho : iOkE P M pc en = true) (hs : iEx E np nk (iMr M) pc en L S h = some (.inr (.inr r))) : ∃ ins : Instr, decode (iMb M) pc = .ok (ins, 1) ∧ iRetOk (iMr M) ins r ∧ S = r.toList := by
  obtain ⟨ins, nx, res, val, pos⟩ := en
  simp only [iOkE, Bool.and_eq_true, Bool.or_eq_true, decide_eq_true_eq] at ho
  obtain ⟨hd0, ho⟩ := ho
  cases ins <;> simp only [iEx, iLdI, iLdL, iLdA, iStI, iStL, iStA, iBin, iBil, iUn, iGetf, iPutf, iAld, iAll, iAla, iAlen, iAst, iAsl, iAsa, iNewa, iNewq, iCopy, iMax, iMin, iOI, iLfl_eq, iSw, iCmp, iCallS, iCallI, iCallV, cond_eq_ite] at hs
  all_goals (repeat' split at hs)
  all_goals first | (cases hs; done) | skip
  all_goals simp only [iIsSw, iLen, Bool.false_eq_true, false_or] at hd0
  all_goals cases hs
  · rename_i hr; exact ⟨_, hd0.2, ⟨rfl, Or.inl hr⟩, rfl⟩
  · rename_i hr h01; exact ⟨_, hd0.2, ⟨rfl, Or.inr ⟨hr, h01⟩⟩, rfl⟩
  · rename_i hr; exact ⟨_, hd0.2, ⟨rfl, hr⟩, rfl⟩
  · rename_i hr; exact ⟨_, hd0.2, ⟨rfl, hr⟩, rfl⟩
end ISim
end
section
section IMain
variable {l : Launch} {B b dg Ls : Nat} {xs : Nat → Int32} {tc : Nat → ClassId} {dC : Nat → ClassId} {dI : Nat → Nat → Nat} {P : Nat → Option iMeth}
theorem lg_sl_len (vs : List Value) : (lg_sl vs).length = iCat vs := by
  induction vs with
  | nil => rfl
  | cons v vs ih =>
    have e1 : lg_sl (v :: vs) = (if v.category = 2 then [Slot.val v, Slot.second] else [Slot.val v]) ++ lg_sl vs := by simp [lg_sl]
    rw [e1, List.length_append, ih]
    rcases lv_cat v with h | h
    · rw [if_neg (by omega)]; simp [iCat, h]
    · rw [if_pos h]; simp [iCat, h]
theorem iCat_map (vs : List Value) : iCat (vs.map (iv B b dg)) = iCat vs := by
  induction vs with
  | nil => rfl
  | cons v vs ih => simp only [List.map_cons, iCat, ih, iv_cat]
theorem lv_args_map (vs : List Value) : ∀ i : Nat, lv_args i (vs.map (iv B b dg)) = iL B b dg (lv_args i vs) := by
  induction vs with
  | nil => intro i; rfl
  | cons v vs ih =>
    intro i
    simp only [List.map_cons, lv_args, iL, iv_cat, List.cons.injEq, true_and]
    exact ih _
def iSnd (l : Launch) (B b dg Ls : Nat) (xs : Nat → Int32) (tc dC : Nat → ClassId) (dI : Nat → Nat → Nat) (P : Nat → Option iMeth) (f : Nat) : Prop :=
  ∀ (d : Nat) (M : iMeth) (c : iCfg) (o : iRes), iRun (iExt Ls xs) P f d M c = some o → iOkT P M = true →
    ∀ {p : Program} {e : Env} {R : Room} {s : State} {m : MethodId} {args : Array Value} {below : List Frame} {meth : Method} {cd : Code} {Q : State → Prop} {n0 z0 : Nat},
      p.tables.exec = Jvm.exec → cd.code = iMb M → cd.maxLocals = iMl M → s.vm.findClass (iMy M).cls = some m.cls → ((iMy M).name = "<init>" → meth.name = "<init>") → (∀ w ∈ lw_tbl, iUse w = true → w.before args s = true) → iG B b dg Ls xs tc dC dI s s.heap → iN s → s.heap.size = B + n0 → d + 1 ≤ R.frames → 40 * d + 30 ≤ R.locals → o.2.length ≤ n0 + R.cells → iSl o.2 ≤ z0 + R.slots →
      (∀ (pc : Nat) (ins : Instr) (ls : Array Slot) (H : Heap) (locs : List Loc) (cells slots : Nat), decode (iMb M) pc = .ok (ins, 1) → iRetOk (iMr M) ins o.1 → n0 + cells = o.2.length → z0 + slots = iSl o.2 → va_P (dC, dI) vwCl (iw B b dg tc o.2) H → va_S (fun q => B ≤ q) s.heap H locs → W p l e R s m args below meth cd H locs cells slots Q (F0 m pc ls (o.1.toList.map (iv B b dg)))) →
      iAt p l e R s m args below meth cd Q B b dg n0 z0 (iMl M) tc dC dI c
theorem i_met {f d : Nat} (ih : iSnd l B b dg Ls xs tc dC dI P f) {C : iMeth} (hC : iOkM C = true) (hT : iOkT P C = true) {as : List Value} {h h' : List va_E} {r : Option Value} (hg : Nat.ble (iCat as) (iMl C) = true) (hr : iRun (iExt Ls xs) P f d C (0, lv_args 0 as, [], h) = some (r, h')) : Met l (iMy C) (iWs C) (iRm d h h') (iPc B b dg Ls xs tc dC dI as h) (iQc B b dg tc dC dI r h') (h'.length - h.length) (iSl h' - iSl h) (fun q => B ≤ q) := by
  have hmono := iRun_mono _ _ _ _ _ hr
  dsimp only at hmono
  refine Met.ofW (cc := iMb C) (maxL := iMl C) (ret := iMr C) (iOkM_spec hC).1 rfl ?_
  intro p e s m args below meth c s₁ Bd hml hv
  obtain ⟨rfl, hsz, hP, hG, hN⟩ := hv
  have hx := Bd.exec
  have hb := Bd.bytes
  have hret := Bd.returns
  have hlocks := Bd.notSynchronized
  have hts0 := atoms_spec (ws := iWs C) Bd.pre
  have hts : ∀ w ∈ lw_tbl, iUse w = true → w.before (as.map (iv B b dg)).toArray s = true := by
    intro w hw hu
    have h1 := List.all_eq_true.mp lw_cls w hw
    rw [hu] at h1
    simp only [Bool.not_true, Bool.false_or, Bool.or_eq_true] at h1
    rcases h1 with h1 | h1
    · exact hts0 w (List.mem_cons_of_mem _ (List.mem_filter.mpr ⟨hw, h1⟩))
    · exact iN_use h1 (hN w hw h1)
  have hown : s.vm.findClass (iMy C).cls = some m.cls := findClass_of_methodNamed Bd.named
  rw [lg_entry_eq]
  have hl := lv_entry (as.map (iv B b dg)) (n := iMl C) (by rw [lg_sl_len, iCat_map]; exact Nat.le_of_ble_eq_true hg)
  rw [lv_args_map] at hl
  refine ih d C (0, lv_args 0 as, [], h) (r, h') hr hT (n0 := h.length) (z0 := iSl h) hx hb hml hown (fun hn => by rw [(name_of_methodNamed Bd.named Bd.method).1]; exact hn) hts hG hN hsz (Nat.le_refl _) (Nat.le_refl _) (by show h'.length ≤ h.length + (h'.length - h.length); omega) (by show iSl h' ≤ iSl h + (iSl h' - iSl h); omega) ?_ s.heap [] 0 0 _ rfl rfl hl hP va_S.rf
  intro pc ins ls H locs cells slots hd hro hcl hsl hP' hS'
  dsimp only at hcl hsl
  have e1 : cells = h'.length - h.length := by omega
  have e2 : slots = iSl h' - iSl h := by omega
  subst e1
  subst e2
  unfold iRetOk at hro
  split at hro
  · rename_i hrn
    dsimp only at hrn
    subst hrn
    obtain ⟨rfl, hro⟩ := hro
    exact W.vret hx hb (hret.trans hro) (fun t ht hW => ⟨rfl, by rw [ht]; exact hP', hS'.F ht⟩) hS'.2.2 hd
  · rename_i x hrn
    dsimp only at hrn
    subst hrn
    obtain ⟨rfl, hro⟩ := hro
    rcases hro with hro | ⟨hro, h01⟩
    · exact W.zret (ty := .int) hx hb (hret.trans hro) rfl (fun t ht hW => ⟨rfl, by rw [ht]; exact hP', hS'.F ht⟩) hS'.2.2 hd
    · exact W.zret (ty := .boolean) hx hb (hret.trans hro) (by rcases h01 with rfl | rfl <;> rfl) (fun t ht hW => ⟨rfl, by rw [ht]; exact hP', hS'.F ht⟩) hS'.2.2 hd
  · rename_i x hrn
    dsimp only at hrn
    subst hrn
    obtain ⟨rfl, hro⟩ := hro
    exact W.lret hx hb (hret.trans hro) (fun t ht hW => ⟨rfl, by rw [ht]; exact hP', hS'.F ht⟩) hS'.2.2 hd
  · exact hro.elim
theorem i_sound (hPok : ∀ n C, P n = some C → iOkM C = true ∧ iOkT P C = true) : ∀ f : Nat, iSnd l B b dg Ls xs tc dC dI P f := by
  intro f
  induction f with
  | zero => intro d M c o hr; cases hr
  | succ f ih =>
    intro d M c o hr hT p e R s m args below meth cd Q n0 z0 hx hb hml hown hinit hts hG hN hs0 hRf hRl hcl hsl hfin
    obtain ⟨pc, L, S, hh⟩ := c
    simp only [iRun, iStep] at hr
    split at hr
    · cases hr
    · rename_i c' hs
      split at hs
      · rename_i en hf
        have hm := iRun_mono _ _ _ _ _ hr
        exact iSim hx hb hml hown hinit hts hG hs0 (by omega) (by omega) (iOkT_at hT hf) hs (Nat.le_trans hm.1 hcl) (Nat.le_trans hm.2 hsl) (ih d M c' o hr hT hx hb hml hown hinit hts hG hN hs0 hRf hRl hcl hsl hfin)
      · cases hs
    · rename_i r hs
      cases hr
      split at hs
      · rename_i en hf
        obtain ⟨ins, q1, q2, q3⟩ := iEx_ret (iOkT_at hT hf) hs
        subst q3
        intro H locs cells slots ls h1 h2 hl hP hS
        exact hfin pc ins ls H locs cells slots q1 q2 h1 h2 hP hS
      · cases hs
    · rename_i n as c' hs
      split at hs
      · rename_i en hf
        have h0 := iEx_call hs
        split at hr
        · cases hr
        · rename_i d'
          split at hr
          · cases hr
          · rename_i C hPC
            cases hg : Nat.ble (iCat as) C.2.2.1 with
            | false => rw [hg] at hr; cases hr
            | true =>
              rw [hg] at hr
              simp only [cond_true] at hr
              split at hr
              · cases hr
              · rename_i r h' hrC
                rw [h0] at hrC
                have hM := i_met (l := l) ih (hPok n C hPC).1 (hPok n C hPC).2 hg hrC
                have hmono := iRun_mono _ _ _ _ _ hrC
                dsimp only at hmono
                have hm2 := iRun_mono _ _ _ _ _ hr
                dsimp only at hm2
                have hk := ih (d' + 1) M _ o hr hT hx hb hml hown hinit hts hG hN hs0 hRf hRl hcl hsl hfin
                have hoE := iOkT_at hT hf
                obtain ⟨ins, nx, res, val, pos⟩ := en
                simp only [iOkE, Bool.and_eq_true, Bool.or_eq_true, decide_eq_true_eq] at hoE
                obtain ⟨hd0, hoE⟩ := hoE
                have hC := (hPok n C hPC).1
                cases ins <;> simp only [iEx] at hs <;> first | (cases hs; done) | skip
                case invokespecial i =>
                  simp only [iIsSw, iLen, Bool.false_eq_true, false_or] at hd0
                  obtain ⟨hnx, hd⟩ := hd0
                  subst hnx
                  split at hs
                  · simp only [iOI, cond_eq_ite] at hs
                    repeat' split at hs
                    all_goals cases hs
                  · rename_i hr1
                    have hn : res = n := by
                      simp only [iCallI, cond_eq_ite] at hs
                      repeat' split at hs
                      all_goals first | (cases hs; rfl) | cases hs
                    subst hn
                    simp only [iOkI] at hoE
                    rw [if_neg hr1, hPC] at hoE
                    simp only [Bool.and_eq_true, Bool.or_eq_true, decide_eq_true_eq, iOkL, iOkN] at hoE
                    rw [show iNp P res = iMn C by simp [iNp, hPC]] at hs
                    rcases hoE.2 with hw | hw
                    · exact is_callI hC hoE.1 hx hb hml hown hts hG hN hs0 (by omega) (by omega) hw hd hs hM hmono (Nat.le_trans hm2.1 hcl) (Nat.le_trans hm2.2 hsl) hk
                    · exact is_callIN hC hoE.1 hx hb hml hown hts hG hN hs0 (by omega) (by omega) hw hd hs hM hmono (Nat.le_trans hm2.1 hcl) (Nat.le_trans hm2.2 hsl) hk
                case invokestatic i =>
                  simp only [iIsSw, iLen, Bool.false_eq_true, false_or] at hd0
                  obtain ⟨hnx, hd⟩ := hd0
                  subst hnx
                  by_cases hm1 : res = 1001
                  · rw [if_pos hm1] at hs
                    simp only [iCopy, cond_eq_ite] at hs
                    repeat' split at hs
                    all_goals cases hs
                  by_cases hm2' : res = 1002
                  · rw [if_neg hm1, if_pos hm2'] at hs
                    simp only [iMax, cond_eq_ite] at hs
                    repeat' split at hs
                    all_goals cases hs
                  by_cases hm3 : res = 1003
                  · rw [if_neg hm1, if_neg hm2', if_pos hm3] at hs
                    simp only [iMin, cond_eq_ite] at hs
                    repeat' split at hs
                    all_goals cases hs
                  · rw [if_neg hm1, if_neg hm2', if_neg hm3] at hs
                    have hn : res = n := by
                      simp only [iCallS, cond_eq_ite] at hs
                      repeat' split at hs
                      all_goals first | (cases hs; rfl) | cases hs
                    subst hn
                    simp only [iOkI] at hoE
                    rw [if_neg hm1, if_neg hm2', if_neg hm3, hPC] at hoE
                    simp only [Bool.and_eq_true, Bool.or_eq_true, decide_eq_true_eq, iOkL, iOkN] at hoE
                    rw [show iNp P res = iMn C by simp [iNp, hPC]] at hs
                    rcases hoE.2 with hw | hw
                    · exact is_callS hC hoE.1 hx hb hml hown hts hG hN hs0 (by omega) (by omega) hw hd hs hM hmono (Nat.le_trans hm2.1 hcl) (Nat.le_trans hm2.2 hsl) hk
                    · exact is_callSN hC hoE.1 hx hb hml hown hts hG hN hs0 (by omega) (by omega) hw hd hs hM hmono (Nat.le_trans hm2.1 hcl) (Nat.le_trans hm2.2 hsl) hk
                case invokevirtual i =>
                  simp only [iIsSw, iLen, Bool.false_eq_true, false_or] at hd0
                  obtain ⟨hnx, hd⟩ := hd0
                  subst hnx
                  have hn : res = n := by
                    simp only [iCallV, cond_eq_ite] at hs
                    repeat' split at hs
                    all_goals first | (cases hs; rfl) | cases hs
                  subst hn
                  simp only [iOkI] at hoE
                  rw [hPC] at hoE
                  simp only [Bool.and_eq_true, Bool.or_eq_true, decide_eq_true_eq, iOkL, iOkN] at hoE
                  rw [show iNp P res = iMn C by simp [iNp, hPC], show iNk P res = iMk C by simp [iNk, hPC]] at hs
                  exact is_callV hC hoE.1 hx hb hml hown hts hG hN hs0 (by omega) (by omega) hoE.2 hd hs hM hmono (Nat.le_trans hm2.1 hcl) (Nat.le_trans hm2.2 hsl) hk
                all_goals (try simp only [iLdI, iLdL, iLdA, iStI, iStL, iStA, iBin, iBil, iUn, iGetf, iPutf, iAld, iAll, iAla, iAlen, iAst, iAsl, iAsa, iNewa, iNewq, iLfl_eq, iSw, iCmp] at hs)
                all_goals (repeat' split at hs)
                all_goals cases hs
      · cases hs
end IMain
end
section
abbrev iOkP (C : iMeth) : Prop := iOkM C = true ∧ iOkT iProg C = true
def iOkC (P : Nat → Option iMeth) (M : iMeth) (k : Nat) : Bool := (List.range 16).all (fun j => match iFetch (iMt M) (16 * k + j) with
  | none => true
  | some en => iOkE P M (16 * k + j) en)
theorem iOkC_all {P : Nat → Option iMeth} {M : iMeth} (h : ∀ k, k < (iMt M).length → iOkC P M k = true) : iOkT P M = true := by
  unfold iOkT
  apply List.all_eq_true.mpr
  intro pc hpc
  have hlt := List.mem_range.mp hpc
  have h1 := List.all_eq_true.mp (h (pc / 16) (by omega)) (pc % 16) (List.mem_range.mpr (Nat.mod_lt _ (by decide)))
  rw [show 16 * (pc / 16) + pc % 16 = pc by omega] at h1
  exact h1
theorem ok_X0_init : iOkP mX0_init := ⟨by decide +kernel, by decide +kernel⟩
theorem ok_X0_run : iOkP mX0_run := ⟨by decide +kernel, by decide +kernel⟩
theorem ok_X0_beginMinute : iOkP mX0_beginMinute := ⟨by decide +kernel, by decide +kernel⟩
theorem ok_X0_move : iOkP mX0_move := ⟨by decide +kernel, by decide +kernel⟩
theorem ok_X0_putIn : iOkP mX0_putIn := ⟨by decide +kernel, by decide +kernel⟩
theorem ok_X0_lierIn : iOkP mX0_lierIn := ⟨by decide +kernel, by decide +kernel⟩
theorem ok_X0_afloatOrLying : iOkP mX0_afloatOrLying := ⟨by decide +kernel, by decide +kernel⟩
theorem ok_X0_minuteOut : iOkP mX0_minuteOut := ⟨by decide +kernel, by decide +kernel⟩
theorem ok_X0_minutesIn : iOkP mX0_minutesIn := ⟨by decide +kernel, by decide +kernel⟩
theorem ok_X0_minutesOfAll : iOkP mX0_minutesOfAll := ⟨by decide +kernel, by decide +kernel⟩
theorem ok_X0_outBits : iOkP mX0_outBits := ⟨by decide +kernel, by decide +kernel⟩
theorem ok_X0_trace : iOkP mX0_trace := ⟨by decide +kernel, by decide +kernel⟩
theorem ok_X1_init : iOkP mX1_init := ⟨by decide +kernel, by decide +kernel⟩
theorem ok_X1_mayBe : iOkP mX1_mayBe := ⟨by decide +kernel, by decide +kernel⟩
theorem ok_X1_append : iOkP mX1_append := ⟨by decide +kernel, by decide +kernel⟩
theorem ok_X1_bits : iOkP mX1_bits := ⟨by decide +kernel, by decide +kernel⟩
theorem ok_X1_mark : iOkP mX1_mark := ⟨by decide +kernel, by decide +kernel⟩
theorem ok_X2_init : iOkP mX2_init := ⟨by decide +kernel, by decide +kernel⟩
theorem ok_X2_isLost : iOkP mX2_isLost := ⟨by decide +kernel, by decide +kernel⟩
theorem ok_X2_renew : iOkP mX2_renew := ⟨by decide +kernel, by decide +kernel⟩
theorem ok_X2_findingAt : iOkP mX2_findingAt := ⟨by decide +kernel, by decide +kernel⟩
theorem ok_X2_hasRun : iOkP mX2_hasRun := ⟨by decide +kernel, by decide +kernel⟩
theorem ok_X2_put : iOkP mX2_put := ⟨by decide +kernel, by decide +kernel⟩
theorem ok_X3_init : iOkP mX3_init := ⟨by decide +kernel, by decide +kernel⟩
theorem ok_X3_append : iOkP mX3_append := ⟨by decide +kernel, by decide +kernel⟩
theorem ok_X3_fit : iOkP mX3_fit := ⟨by decide +kernel, by decide +kernel⟩
theorem ok_X4_init : iOkP mX4_init := ⟨by decide +kernel, by decide +kernel⟩
theorem ok_X4_append : iOkP mX4_append := ⟨by decide +kernel, by decide +kernel⟩
theorem ok_X5_init : iOkP mX5_init := ⟨by decide +kernel, by decide +kernel⟩
theorem ok_X5_tellSlopes : iOkP mX5_tellSlopes := ⟨by decide +kernel, by decide +kernel⟩
theorem ok_X5_tellFeeders : iOkP mX5_tellFeeders := ⟨by decide +kernel, by decide +kernel⟩
theorem ok_X5_tellFigures : iOkP mX5_tellFigures := ⟨by decide +kernel, by decide +kernel⟩
theorem ok_X5_tellLogs : iOkP mX5_tellLogs := ⟨by decide +kernel, by decide +kernel⟩
theorem ok_X5_faultOfLogs : iOkP mX5_faultOfLogs := ⟨by decide +kernel, by decide +kernel⟩
theorem ok_X5_mayStand : iOkP mX5_mayStand := ⟨by decide +kernel, by decide +kernel⟩
theorem ok_X5_logBits : iOkP mX5_logBits := ⟨by decide +kernel, by decide +kernel⟩
theorem ok_X6_init : iOkP mX6_init := ⟨by decide +kernel, by decide +kernel⟩
theorem ok_X6_pour : iOkP mX6_pour := ⟨by decide +kernel, by decide +kernel⟩
theorem ok_X6_together : iOkP mX6_together := ⟨by decide +kernel, by decide +kernel⟩
theorem ok_X6_dryBits : iOkP mX6_dryBits := ⟨by decide +kernel, by decide +kernel⟩
theorem ok_X7_init : iOkP mX7_init := ⟨by decide +kernel, by decide +kernel⟩
theorem ok_X7_type : iOkP mX7_type := ⟨by decide +kernel, by decide +kernel⟩
theorem ok_X7_wipe : iOkP mX7_wipe := ⟨by decide +kernel, by decide +kernel⟩
theorem ok_X7_undo : iOkP mX7_undo := ⟨by decide +kernel, by decide +kernel⟩
theorem ok_X7_fault : iOkP mX7_fault := ⟨by decide +kernel, by decide +kernel⟩
theorem ok_X7_span : iOkP mX7_span := ⟨by decide +kernel, by decide +kernel⟩
theorem ok_X7_log : iOkP mX7_log := ⟨by decide +kernel, by decide +kernel⟩
theorem ok_X7_event : iOkP mX7_event := ⟨by decide +kernel, by decide +kernel⟩
theorem ok_X7_back : iOkP mX7_back := ⟨by decide +kernel, by decide +kernel⟩
theorem ok_X7_read : iOkP mX7_read := ⟨by decide +kernel, by decide +kernel⟩
theorem ok_X7_flume : iOkP mX7_flume := ⟨by decide +kernel, by decide +kernel⟩
theorem ok_X7_at : iOkP mX7_at := ⟨by decide +kernel, by decide +kernel⟩
theorem ok_X7_all : iOkP mX7_all := ⟨by decide +kernel, by decide +kernel⟩
end
section
theorem ok_X7_out : iOkP mX7_out := ⟨by decide +kernel, by decide +kernel⟩
theorem ok_X7_jam : iOkP mX7_jam := ⟨by decide +kernel, by decide +kernel⟩
theorem ok_X7_left : iOkP mX7_left := ⟨by decide +kernel, by decide +kernel⟩
theorem ok_X7_worst : iOkP mX7_worst := ⟨by decide +kernel, by decide +kernel⟩
theorem ok_X7_send : iOkP mX7_send := ⟨by decide +kernel, by decide +kernel⟩
theorem ok_X7_steep : iOkP mX7_steep := ⟨by decide +kernel, by decide +kernel⟩
theorem ok_X7_fill : iOkP mX7_fill := ⟨by decide +kernel, by decide +kernel⟩
theorem ok_X7_spare : iOkP mX7_spare := ⟨by decide +kernel, by decide +kernel⟩
theorem ok_X7_seen : iOkP mX7_seen := ⟨by decide +kernel, by decide +kernel⟩
theorem ok_X7_forget : iOkP mX7_forget := ⟨by decide +kernel, by decide +kernel⟩
theorem ok_X7_never : iOkP mX7_never := ⟨by decide +kernel, by decide +kernel⟩
theorem ok_X7_draughts : iOkP mX7_draughts := ⟨by decide +kernel, by decide +kernel⟩
theorem ok_X7_grade : iOkP mX7_grade := ⟨by decide +kernel, by decide +kernel⟩
theorem ok_X7_ask : iOkP mX7_ask := ⟨by decide +kernel, by decide +kernel⟩
theorem ok_X7_chance : iOkP mX7_chance := ⟨by decide +kernel, by decide +kernel⟩
theorem ok_X7_seasons : iOkP mX7_seasons := ⟨by decide +kernel, by decide +kernel⟩
theorem ok_X7_sheet : iOkP mX7_sheet := ⟨by decide +kernel, by decide +kernel⟩
theorem ok_X7_lose : iOkP mX7_lose := ⟨by decide +kernel, by decide +kernel⟩
theorem ok_X7_lay : iOkP mX7_lay := ⟨by decide +kernel, by decide +kernel⟩
theorem ok_X7_get : iOkP mX7_get := ⟨by decide +kernel, by decide +kernel⟩
theorem ok_X7_copy : iOkP mX7_copy := ⟨by decide +kernel, by decide +kernel⟩
theorem ok_X7_write : iOkP mX7_write := ⟨by decide +kernel, by decide +kernel⟩
theorem ok_X7_count : iOkP mX7_count := ⟨by decide +kernel, by decide +kernel⟩
theorem ok_X7_digest : iOkP mX7_digest := ⟨by decide +kernel, by decide +kernel⟩
theorem ok_X7_within : iOkP mX7_within := ⟨by decide +kernel, by decide +kernel⟩
theorem ok_X7_bitAt : iOkP mX7_bitAt := ⟨by decide +kernel, by decide +kernel⟩
theorem ok_X7_isLog : iOkP mX7_isLog := ⟨by decide +kernel, by decide +kernel⟩
theorem ok_X7_found : iOkP mX7_found := ⟨by decide +kernel, by decide +kernel⟩
theorem ok_X7_tellAgain : iOkP mX7_tellAgain := ⟨by decide +kernel, by decide +kernel⟩
theorem ok_X7_unsettle : iOkP mX7_unsettle := ⟨by decide +kernel, by decide +kernel⟩
theorem ok_X7_settle : iOkP mX7_settle := ⟨by decide +kernel, by decide +kernel⟩
theorem ok_X7_startSearch : iOkP mX7_startSearch := ⟨by decide +kernel, by decide +kernel⟩
theorem ok_X7_weigh : iOkP mX7_weigh := ⟨by decide +kernel, by decide +kernel⟩
theorem ok_X7_searchSend : iOkP mX7_searchSend := ⟨by decide +kernel, by decide +kernel⟩
theorem ok_X7_searchSteep : iOkP mX7_searchSteep := ⟨by decide +kernel, by decide +kernel⟩
theorem ok_X7_searchFill : iOkP mX7_searchFill := ⟨by decide +kernel, by decide +kernel⟩
theorem ok_X7_sparedEvents : iOkP mX7_sparedEvents := ⟨by decide +kernel, by decide +kernel⟩
theorem ok_X7_outcome : iOkP mX7_outcome := ⟨by decide +kernel, by decide +kernel⟩
theorem ok_X7_sixteenthsOut : iOkP mX7_sixteenthsOut := ⟨by decide +kernel, by decide +kernel⟩
theorem ok_X7_traceDraughts : iOkP mX7_traceDraughts := ⟨by decide +kernel, by decide +kernel⟩
theorem ok_X7_mostAlike : iOkP mX7_mostAlike := ⟨by decide +kernel, by decide +kernel⟩
theorem ok_X7_mixSpan : iOkP mX7_mixSpan := ⟨by decide +kernel, by decide +kernel⟩
theorem ok_X7_mixLogMinutes : iOkP mX7_mixLogMinutes := ⟨by decide +kernel, by decide +kernel⟩
theorem ok_X7_mixLogPlans : iOkP mX7_mixLogPlans := ⟨by decide +kernel, by decide +kernel⟩
end
section
theorem ok_X7_mixWhole : iOkP mX7_mixWhole := ⟨by decide +kernel, by decide +kernel⟩
theorem ok_X8_init : iOkP mX8_init := ⟨by decide +kernel, by decide +kernel⟩
theorem ok_X8_in : iOkP mX8_in := ⟨by decide +kernel, by decide +kernel⟩
theorem ok_X8_no : iOkP mX8_no := ⟨by decide +kernel, by decide +kernel⟩
theorem ok_X8_isTwo : iOkP mX8_isTwo := ⟨by decide +kernel, by decide +kernel⟩
theorem ok_X8_isIn : iOkP mX8_isIn := ⟨by decide +kernel, by decide +kernel⟩
theorem ok_X8_lesser : iOkP mX8_lesser := ⟨by decide +kernel, by decide +kernel⟩
theorem ok_X8_greater : iOkP mX8_greater := ⟨by decide +kernel, by decide +kernel⟩
theorem ok_X8_part : iOkP mX8_part := ⟨by decide +kernel, by decide +kernel⟩
theorem ok_X8_finds : iOkP mX8_finds := ⟨by decide +kernel, by decide +kernel⟩
theorem ok_X8_isSheet : iOkP mX8_isSheet := ⟨by decide +kernel, by decide +kernel⟩
theorem ok_X8_sheet : iOkP mX8_sheet := ⟨by decide +kernel, by decide +kernel⟩
theorem ok_X8_lose : iOkP mX8_lose := ⟨by decide +kernel, by decide +kernel⟩
theorem ok_X8_lacks : iOkP mX8_lacks := ⟨by decide +kernel, by decide +kernel⟩
theorem ok_X8_cut : iOkP mX8_cut := ⟨by decide +kernel, by decide +kernel⟩
theorem ok_X8_lay : iOkP mX8_lay := ⟨by decide +kernel, by decide +kernel⟩
theorem ok_X8_get : iOkP mX8_get := ⟨by decide +kernel, by decide +kernel⟩
theorem ok_X8_copy : iOkP mX8_copy := ⟨by decide +kernel, by decide +kernel⟩
theorem ok_X8_isText : iOkP mX8_isText := ⟨by decide +kernel, by decide +kernel⟩
theorem ok_X8_type : iOkP mX8_type := ⟨by decide +kernel, by decide +kernel⟩
theorem ok_X8_wipe : iOkP mX8_wipe := ⟨by decide +kernel, by decide +kernel⟩
theorem ok_X8_undo : iOkP mX8_undo := ⟨by decide +kernel, by decide +kernel⟩
theorem ok_X8_figureOf : iOkP mX8_figureOf := ⟨by decide +kernel, by decide +kernel⟩
theorem ok_X8_gentle : iOkP mX8_gentle := ⟨by decide +kernel, by decide +kernel⟩
theorem ok_X8_readsSlopes : iOkP mX8_readsSlopes := ⟨by decide +kernel, by decide +kernel⟩
theorem ok_X8_dries : iOkP mX8_dries := ⟨by decide +kernel, by decide +kernel⟩
theorem ok_X8_readsFeeders : iOkP mX8_readsFeeders := ⟨by decide +kernel, by decide +kernel⟩
theorem ok_X8_logOf : iOkP mX8_logOf := ⟨by decide +kernel, by decide +kernel⟩
theorem ok_X8_readsLogs : iOkP mX8_readsLogs := ⟨by decide +kernel, by decide +kernel⟩
theorem ok_X8_readsText : iOkP mX8_readsText := ⟨by decide +kernel, by decide +kernel⟩
theorem ok_X8_fault : iOkP mX8_fault := ⟨by decide +kernel, by decide +kernel⟩
theorem ok_X8_isSpan : iOkP mX8_isSpan := ⟨by decide +kernel, by decide +kernel⟩
theorem ok_X8_isMinute : iOkP mX8_isMinute := ⟨by decide +kernel, by decide +kernel⟩
theorem ok_X8_isLog : iOkP mX8_isLog := ⟨by decide +kernel, by decide +kernel⟩
theorem ok_X8_spanBy : iOkP mX8_spanBy := ⟨by decide +kernel, by decide +kernel⟩
theorem ok_X8_span : iOkP mX8_span := ⟨by decide +kernel, by decide +kernel⟩
theorem ok_X8_log : iOkP mX8_log := ⟨by decide +kernel, by decide +kernel⟩
theorem ok_X8_event : iOkP mX8_event := ⟨by decide +kernel, by decide +kernel⟩
theorem ok_X8_back : iOkP mX8_back := ⟨by decide +kernel, by decide +kernel⟩
theorem ok_X8_read : iOkP mX8_read := ⟨by decide +kernel, by decide +kernel⟩
theorem ok_X8_told : iOkP mX8_told := ⟨by decide +kernel, by decide +kernel⟩
theorem ok_X8_flows : iOkP mX8_flows := ⟨by decide +kernel, by decide +kernel⟩
theorem ok_X8_lies : iOkP mX8_lies := ⟨by decide +kernel, by decide +kernel⟩
theorem ok_X8_whoBut : iOkP mX8_whoBut := ⟨by decide +kernel, by decide +kernel⟩
theorem ok_X8_floats : iOkP mX8_floats := ⟨by decide +kernel, by decide +kernel⟩
theorem ok_X8_logsGo : iOkP mX8_logsGo := ⟨by decide +kernel, by decide +kernel⟩
theorem ok_X8_passes : iOkP mX8_passes := ⟨by decide +kernel, by decide +kernel⟩
theorem ok_X8_lives : iOkP mX8_lives := ⟨by decide +kernel, by decide +kernel⟩
theorem ok_X8_find : iOkP mX8_find := ⟨by decide +kernel, by decide +kernel⟩
theorem ok_X8_whoBy : iOkP mX8_whoBy := ⟨by decide +kernel, by decide +kernel⟩
theorem ok_X8_flumeBy : iOkP mX8_flumeBy := ⟨by decide +kernel, by decide +kernel⟩
theorem ok_X8_flume : iOkP mX8_flume := ⟨by decide +kernel, by decide +kernel⟩
theorem ok_X8_atBy : iOkP mX8_atBy := ⟨by decide +kernel, by decide +kernel⟩
end
section
theorem ok_X8_at : iOkP mX8_at := ⟨by decide +kernel, by decide +kernel⟩
theorem ok_X8_allBy : iOkP mX8_allBy := ⟨by decide +kernel, by decide +kernel⟩
theorem ok_X8_all : iOkP mX8_all := ⟨by decide +kernel, by decide +kernel⟩
theorem ok_X8_outBy : iOkP mX8_outBy := ⟨by decide +kernel, by decide +kernel⟩
theorem ok_X8_out : iOkP mX8_out := ⟨by decide +kernel, by decide +kernel⟩
theorem ok_X8_jamNow : iOkP mX8_jamNow := ⟨by decide +kernel, by decide +kernel⟩
theorem ok_X8_jam : iOkP mX8_jam := ⟨by decide +kernel, by decide +kernel⟩
theorem ok_X8_dryNow : iOkP mX8_dryNow := ⟨by decide +kernel, by decide +kernel⟩
theorem ok_X8_lateNow : iOkP mX8_lateNow := ⟨by decide +kernel, by decide +kernel⟩
theorem ok_X8_leftBy : iOkP mX8_leftBy := ⟨by decide +kernel, by decide +kernel⟩
theorem ok_X8_left : iOkP mX8_left := ⟨by decide +kernel, by decide +kernel⟩
theorem ok_X8_worstNow : iOkP mX8_worstNow := ⟨by decide +kernel, by decide +kernel⟩
theorem ok_X8_worst : iOkP mX8_worst := ⟨by decide +kernel, by decide +kernel⟩
theorem ok_X8_manyOut : iOkP mX8_manyOut := ⟨by decide +kernel, by decide +kernel⟩
theorem ok_X8_allLain : iOkP mX8_allLain := ⟨by decide +kernel, by decide +kernel⟩
theorem ok_X8_allHalts : iOkP mX8_allHalts := ⟨by decide +kernel, by decide +kernel⟩
theorem ok_X8_sendOf : iOkP mX8_sendOf := ⟨by decide +kernel, by decide +kernel⟩
theorem ok_X8_send : iOkP mX8_send := ⟨by decide +kernel, by decide +kernel⟩
theorem ok_X8_steepBy : iOkP mX8_steepBy := ⟨by decide +kernel, by decide +kernel⟩
theorem ok_X8_steep : iOkP mX8_steep := ⟨by decide +kernel, by decide +kernel⟩
theorem ok_X8_fillBy : iOkP mX8_fillBy := ⟨by decide +kernel, by decide +kernel⟩
theorem ok_X8_fill : iOkP mX8_fill := ⟨by decide +kernel, by decide +kernel⟩
theorem ok_X8_isSpared : iOkP mX8_isSpared := ⟨by decide +kernel, by decide +kernel⟩
theorem ok_X8_spareBy : iOkP mX8_spareBy := ⟨by decide +kernel, by decide +kernel⟩
theorem ok_X8_spare : iOkP mX8_spare := ⟨by decide +kernel, by decide +kernel⟩
theorem ok_X8_seen : iOkP mX8_seen := ⟨by decide +kernel, by decide +kernel⟩
theorem ok_X8_forget : iOkP mX8_forget := ⟨by decide +kernel, by decide +kernel⟩
theorem ok_X8_isSeen : iOkP mX8_isSeen := ⟨by decide +kernel, by decide +kernel⟩
theorem ok_X8_neverNow : iOkP mX8_neverNow := ⟨by decide +kernel, by decide +kernel⟩
theorem ok_X8_never : iOkP mX8_never := ⟨by decide +kernel, by decide +kernel⟩
theorem ok_X8_rowOf : iOkP mX8_rowOf := ⟨by decide +kernel, by decide +kernel⟩
theorem ok_X8_draughtsOf : iOkP mX8_draughtsOf := ⟨by decide +kernel, by decide +kernel⟩
theorem ok_X8_draughts : iOkP mX8_draughts := ⟨by decide +kernel, by decide +kernel⟩
theorem ok_X8_gradeOf : iOkP mX8_gradeOf := ⟨by decide +kernel, by decide +kernel⟩
theorem ok_X8_grade : iOkP mX8_grade := ⟨by decide +kernel, by decide +kernel⟩
theorem ok_X8_alike : iOkP mX8_alike := ⟨by decide +kernel, by decide +kernel⟩
theorem ok_X8_askOf : iOkP mX8_askOf := ⟨by decide +kernel, by decide +kernel⟩
theorem ok_X8_ask : iOkP mX8_ask := ⟨by decide +kernel, by decide +kernel⟩
theorem ok_X8_chanceOf : iOkP mX8_chanceOf := ⟨by decide +kernel, by decide +kernel⟩
theorem ok_X8_chance : iOkP mX8_chance := ⟨by decide +kernel, by decide +kernel⟩
theorem ok_X8_lot : iOkP mX8_lot := ⟨by decide +kernel, by decide +kernel⟩
theorem ok_X8_seasonsOf : iOkP mX8_seasonsOf := ⟨by decide +kernel, by decide +kernel⟩
theorem ok_X8_seasons : iOkP mX8_seasons := ⟨by decide +kernel, by decide +kernel⟩
theorem ok_X8_write : iOkP mX8_write := ⟨by decide +kernel, by decide +kernel⟩
theorem ok_X8_count : iOkP mX8_count := ⟨by decide +kernel, by decide +kernel⟩
theorem ok_X8_tellsSpan : iOkP mX8_tellsSpan := ⟨by decide +kernel, by decide +kernel⟩
theorem ok_X8_tellsMinute : iOkP mX8_tellsMinute := ⟨by decide +kernel, by decide +kernel⟩
theorem ok_X8_tellsLog : iOkP mX8_tellsLog := ⟨by decide +kernel, by decide +kernel⟩
theorem ok_X8_digest : iOkP mX8_digest := ⟨by decide +kernel, by decide +kernel⟩
theorem ok_J6_bitCount_0f7a4 : iOkP mJ6_bitCount_0f7a4 := ⟨by decide +kernel, by decide +kernel⟩
theorem okPr0 : ∀ C ∈ iPr0, iOkP C := List.forall_mem_cons.mpr ⟨ok_X0_init, List.forall_mem_cons.mpr ⟨ok_X0_run, List.forall_mem_cons.mpr ⟨ok_X0_beginMinute, List.forall_mem_cons.mpr ⟨ok_X0_move, List.forall_mem_cons.mpr ⟨ok_X0_putIn, List.forall_mem_cons.mpr ⟨ok_X0_lierIn, List.forall_mem_cons.mpr ⟨ok_X0_afloatOrLying, List.forall_mem_cons.mpr ⟨ok_X0_minuteOut, List.forall_mem_cons.mpr ⟨ok_X0_minutesIn, List.forall_mem_cons.mpr ⟨ok_X0_minutesOfAll, List.forall_mem_cons.mpr ⟨ok_X0_outBits, List.forall_mem_cons.mpr ⟨ok_X0_trace, List.forall_mem_cons.mpr ⟨ok_X1_init, List.forall_mem_cons.mpr ⟨ok_X1_mayBe, List.forall_mem_cons.mpr ⟨ok_X1_append, List.forall_mem_cons.mpr ⟨ok_X1_bits, fun _ h => absurd h List.not_mem_nil⟩⟩⟩⟩⟩⟩⟩⟩⟩⟩⟩⟩⟩⟩⟩⟩
theorem okPr1 : ∀ C ∈ iPr1, iOkP C := List.forall_mem_cons.mpr ⟨ok_X1_mark, List.forall_mem_cons.mpr ⟨ok_X2_init, List.forall_mem_cons.mpr ⟨ok_X2_isLost, List.forall_mem_cons.mpr ⟨ok_X2_renew, List.forall_mem_cons.mpr ⟨ok_X2_findingAt, List.forall_mem_cons.mpr ⟨ok_X2_hasRun, List.forall_mem_cons.mpr ⟨ok_X2_put, List.forall_mem_cons.mpr ⟨ok_X3_init, List.forall_mem_cons.mpr ⟨ok_X3_append, List.forall_mem_cons.mpr ⟨ok_X3_fit, List.forall_mem_cons.mpr ⟨ok_X4_init, List.forall_mem_cons.mpr ⟨ok_X4_append, List.forall_mem_cons.mpr ⟨ok_X5_init, List.forall_mem_cons.mpr ⟨ok_X5_tellSlopes, List.forall_mem_cons.mpr ⟨ok_X5_tellFeeders, List.forall_mem_cons.mpr ⟨ok_X5_tellFigures, fun _ h => absurd h List.not_mem_nil⟩⟩⟩⟩⟩⟩⟩⟩⟩⟩⟩⟩⟩⟩⟩⟩
theorem okPr2 : ∀ C ∈ iPr2, iOkP C := List.forall_mem_cons.mpr ⟨ok_X5_tellLogs, List.forall_mem_cons.mpr ⟨ok_X5_faultOfLogs, List.forall_mem_cons.mpr ⟨ok_X5_mayStand, List.forall_mem_cons.mpr ⟨ok_X5_logBits, List.forall_mem_cons.mpr ⟨ok_X6_init, List.forall_mem_cons.mpr ⟨ok_X6_pour, List.forall_mem_cons.mpr ⟨ok_X6_together, List.forall_mem_cons.mpr ⟨ok_X6_dryBits, List.forall_mem_cons.mpr ⟨ok_X7_init, List.forall_mem_cons.mpr ⟨ok_X7_type, List.forall_mem_cons.mpr ⟨ok_X7_wipe, List.forall_mem_cons.mpr ⟨ok_X7_undo, List.forall_mem_cons.mpr ⟨ok_X7_fault, List.forall_mem_cons.mpr ⟨ok_X7_span, List.forall_mem_cons.mpr ⟨ok_X7_log, List.forall_mem_cons.mpr ⟨ok_X7_event, fun _ h => absurd h List.not_mem_nil⟩⟩⟩⟩⟩⟩⟩⟩⟩⟩⟩⟩⟩⟩⟩⟩
theorem okPr3 : ∀ C ∈ iPr3, iOkP C := List.forall_mem_cons.mpr ⟨ok_X7_back, List.forall_mem_cons.mpr ⟨ok_X7_read, List.forall_mem_cons.mpr ⟨ok_X7_flume, List.forall_mem_cons.mpr ⟨ok_X7_at, List.forall_mem_cons.mpr ⟨ok_X7_all, List.forall_mem_cons.mpr ⟨ok_X7_out, List.forall_mem_cons.mpr ⟨ok_X7_jam, List.forall_mem_cons.mpr ⟨ok_X7_left, List.forall_mem_cons.mpr ⟨ok_X7_worst, List.forall_mem_cons.mpr ⟨ok_X7_send, List.forall_mem_cons.mpr ⟨ok_X7_steep, List.forall_mem_cons.mpr ⟨ok_X7_fill, List.forall_mem_cons.mpr ⟨ok_X7_spare, List.forall_mem_cons.mpr ⟨ok_X7_seen, List.forall_mem_cons.mpr ⟨ok_X7_forget, List.forall_mem_cons.mpr ⟨ok_X7_never, fun _ h => absurd h List.not_mem_nil⟩⟩⟩⟩⟩⟩⟩⟩⟩⟩⟩⟩⟩⟩⟩⟩
theorem okPr4 : ∀ C ∈ iPr4, iOkP C := List.forall_mem_cons.mpr ⟨ok_X7_draughts, List.forall_mem_cons.mpr ⟨ok_X7_grade, List.forall_mem_cons.mpr ⟨ok_X7_ask, List.forall_mem_cons.mpr ⟨ok_X7_chance, List.forall_mem_cons.mpr ⟨ok_X7_seasons, List.forall_mem_cons.mpr ⟨ok_X7_sheet, List.forall_mem_cons.mpr ⟨ok_X7_lose, List.forall_mem_cons.mpr ⟨ok_X7_lay, List.forall_mem_cons.mpr ⟨ok_X7_get, List.forall_mem_cons.mpr ⟨ok_X7_copy, List.forall_mem_cons.mpr ⟨ok_X7_write, List.forall_mem_cons.mpr ⟨ok_X7_count, List.forall_mem_cons.mpr ⟨ok_X7_digest, List.forall_mem_cons.mpr ⟨ok_X7_within, List.forall_mem_cons.mpr ⟨ok_X7_bitAt, List.forall_mem_cons.mpr ⟨ok_X7_isLog, fun _ h => absurd h List.not_mem_nil⟩⟩⟩⟩⟩⟩⟩⟩⟩⟩⟩⟩⟩⟩⟩⟩
theorem okPr5 : ∀ C ∈ iPr5, iOkP C := List.forall_mem_cons.mpr ⟨ok_X7_found, List.forall_mem_cons.mpr ⟨ok_X7_tellAgain, List.forall_mem_cons.mpr ⟨ok_X7_unsettle, List.forall_mem_cons.mpr ⟨ok_X7_settle, List.forall_mem_cons.mpr ⟨ok_X7_startSearch, List.forall_mem_cons.mpr ⟨ok_X7_weigh, List.forall_mem_cons.mpr ⟨ok_X7_searchSend, List.forall_mem_cons.mpr ⟨ok_X7_searchSteep, List.forall_mem_cons.mpr ⟨ok_X7_searchFill, List.forall_mem_cons.mpr ⟨ok_X7_sparedEvents, List.forall_mem_cons.mpr ⟨ok_X7_outcome, List.forall_mem_cons.mpr ⟨ok_X7_sixteenthsOut, List.forall_mem_cons.mpr ⟨ok_X7_traceDraughts, List.forall_mem_cons.mpr ⟨ok_X7_mostAlike, List.forall_mem_cons.mpr ⟨ok_X7_mixSpan, List.forall_mem_cons.mpr ⟨ok_X7_mixLogMinutes, fun _ h => absurd h List.not_mem_nil⟩⟩⟩⟩⟩⟩⟩⟩⟩⟩⟩⟩⟩⟩⟩⟩
theorem okPr6 : ∀ C ∈ iPr6, iOkP C := List.forall_mem_cons.mpr ⟨ok_X7_mixLogPlans, List.forall_mem_cons.mpr ⟨ok_X7_mixWhole, List.forall_mem_cons.mpr ⟨ok_X8_init, List.forall_mem_cons.mpr ⟨ok_X8_in, List.forall_mem_cons.mpr ⟨ok_X8_no, List.forall_mem_cons.mpr ⟨ok_X8_isTwo, List.forall_mem_cons.mpr ⟨ok_X8_isIn, List.forall_mem_cons.mpr ⟨ok_X8_lesser, List.forall_mem_cons.mpr ⟨ok_X8_greater, List.forall_mem_cons.mpr ⟨ok_X8_part, List.forall_mem_cons.mpr ⟨ok_X8_finds, List.forall_mem_cons.mpr ⟨ok_X8_isSheet, List.forall_mem_cons.mpr ⟨ok_X8_sheet, List.forall_mem_cons.mpr ⟨ok_X8_lose, List.forall_mem_cons.mpr ⟨ok_X8_lacks, List.forall_mem_cons.mpr ⟨ok_X8_cut, fun _ h => absurd h List.not_mem_nil⟩⟩⟩⟩⟩⟩⟩⟩⟩⟩⟩⟩⟩⟩⟩⟩
theorem okPr7 : ∀ C ∈ iPr7, iOkP C := List.forall_mem_cons.mpr ⟨ok_X8_lay, List.forall_mem_cons.mpr ⟨ok_X8_get, List.forall_mem_cons.mpr ⟨ok_X8_copy, List.forall_mem_cons.mpr ⟨ok_X8_isText, List.forall_mem_cons.mpr ⟨ok_X8_type, List.forall_mem_cons.mpr ⟨ok_X8_wipe, List.forall_mem_cons.mpr ⟨ok_X8_undo, List.forall_mem_cons.mpr ⟨ok_X8_figureOf, List.forall_mem_cons.mpr ⟨ok_X8_gentle, List.forall_mem_cons.mpr ⟨ok_X8_readsSlopes, List.forall_mem_cons.mpr ⟨ok_X8_dries, List.forall_mem_cons.mpr ⟨ok_X8_readsFeeders, List.forall_mem_cons.mpr ⟨ok_X8_logOf, List.forall_mem_cons.mpr ⟨ok_X8_readsLogs, List.forall_mem_cons.mpr ⟨ok_X8_readsText, List.forall_mem_cons.mpr ⟨ok_X8_fault, fun _ h => absurd h List.not_mem_nil⟩⟩⟩⟩⟩⟩⟩⟩⟩⟩⟩⟩⟩⟩⟩⟩
theorem okPr8 : ∀ C ∈ iPr8, iOkP C := List.forall_mem_cons.mpr ⟨ok_X8_isSpan, List.forall_mem_cons.mpr ⟨ok_X8_isMinute, List.forall_mem_cons.mpr ⟨ok_X8_isLog, List.forall_mem_cons.mpr ⟨ok_X8_spanBy, List.forall_mem_cons.mpr ⟨ok_X8_span, List.forall_mem_cons.mpr ⟨ok_X8_log, List.forall_mem_cons.mpr ⟨ok_X8_event, List.forall_mem_cons.mpr ⟨ok_X8_back, List.forall_mem_cons.mpr ⟨ok_X8_read, List.forall_mem_cons.mpr ⟨ok_X8_told, List.forall_mem_cons.mpr ⟨ok_X8_flows, List.forall_mem_cons.mpr ⟨ok_X8_lies, List.forall_mem_cons.mpr ⟨ok_X8_whoBut, List.forall_mem_cons.mpr ⟨ok_X8_floats, List.forall_mem_cons.mpr ⟨ok_X8_logsGo, List.forall_mem_cons.mpr ⟨ok_X8_passes, fun _ h => absurd h List.not_mem_nil⟩⟩⟩⟩⟩⟩⟩⟩⟩⟩⟩⟩⟩⟩⟩⟩
theorem okPr9 : ∀ C ∈ iPr9, iOkP C := List.forall_mem_cons.mpr ⟨ok_X8_lives, List.forall_mem_cons.mpr ⟨ok_X8_find, List.forall_mem_cons.mpr ⟨ok_X8_whoBy, List.forall_mem_cons.mpr ⟨ok_X8_flumeBy, List.forall_mem_cons.mpr ⟨ok_X8_flume, List.forall_mem_cons.mpr ⟨ok_X8_atBy, List.forall_mem_cons.mpr ⟨ok_X8_at, List.forall_mem_cons.mpr ⟨ok_X8_allBy, List.forall_mem_cons.mpr ⟨ok_X8_all, List.forall_mem_cons.mpr ⟨ok_X8_outBy, List.forall_mem_cons.mpr ⟨ok_X8_out, List.forall_mem_cons.mpr ⟨ok_X8_jamNow, List.forall_mem_cons.mpr ⟨ok_X8_jam, List.forall_mem_cons.mpr ⟨ok_X8_dryNow, List.forall_mem_cons.mpr ⟨ok_X8_lateNow, List.forall_mem_cons.mpr ⟨ok_X8_leftBy, fun _ h => absurd h List.not_mem_nil⟩⟩⟩⟩⟩⟩⟩⟩⟩⟩⟩⟩⟩⟩⟩⟩
theorem okPr10 : ∀ C ∈ iPr10, iOkP C := List.forall_mem_cons.mpr ⟨ok_X8_left, List.forall_mem_cons.mpr ⟨ok_X8_worstNow, List.forall_mem_cons.mpr ⟨ok_X8_worst, List.forall_mem_cons.mpr ⟨ok_X8_manyOut, List.forall_mem_cons.mpr ⟨ok_X8_allLain, List.forall_mem_cons.mpr ⟨ok_X8_allHalts, List.forall_mem_cons.mpr ⟨ok_X8_sendOf, List.forall_mem_cons.mpr ⟨ok_X8_send, List.forall_mem_cons.mpr ⟨ok_X8_steepBy, List.forall_mem_cons.mpr ⟨ok_X8_steep, List.forall_mem_cons.mpr ⟨ok_X8_fillBy, List.forall_mem_cons.mpr ⟨ok_X8_fill, List.forall_mem_cons.mpr ⟨ok_X8_isSpared, List.forall_mem_cons.mpr ⟨ok_X8_spareBy, List.forall_mem_cons.mpr ⟨ok_X8_spare, List.forall_mem_cons.mpr ⟨ok_X8_seen, fun _ h => absurd h List.not_mem_nil⟩⟩⟩⟩⟩⟩⟩⟩⟩⟩⟩⟩⟩⟩⟩⟩
theorem okPr11 : ∀ C ∈ iPr11, iOkP C := List.forall_mem_cons.mpr ⟨ok_X8_forget, List.forall_mem_cons.mpr ⟨ok_X8_isSeen, List.forall_mem_cons.mpr ⟨ok_X8_neverNow, List.forall_mem_cons.mpr ⟨ok_X8_never, List.forall_mem_cons.mpr ⟨ok_X8_rowOf, List.forall_mem_cons.mpr ⟨ok_X8_draughtsOf, List.forall_mem_cons.mpr ⟨ok_X8_draughts, List.forall_mem_cons.mpr ⟨ok_X8_gradeOf, List.forall_mem_cons.mpr ⟨ok_X8_grade, List.forall_mem_cons.mpr ⟨ok_X8_alike, List.forall_mem_cons.mpr ⟨ok_X8_askOf, List.forall_mem_cons.mpr ⟨ok_X8_ask, List.forall_mem_cons.mpr ⟨ok_X8_chanceOf, List.forall_mem_cons.mpr ⟨ok_X8_chance, List.forall_mem_cons.mpr ⟨ok_X8_lot, List.forall_mem_cons.mpr ⟨ok_X8_seasonsOf, fun _ h => absurd h List.not_mem_nil⟩⟩⟩⟩⟩⟩⟩⟩⟩⟩⟩⟩⟩⟩⟩⟩
theorem okPr12 : ∀ C ∈ iPr12, iOkP C := List.forall_mem_cons.mpr ⟨ok_X8_seasons, List.forall_mem_cons.mpr ⟨ok_X8_write, List.forall_mem_cons.mpr ⟨ok_X8_count, List.forall_mem_cons.mpr ⟨ok_X8_tellsSpan, List.forall_mem_cons.mpr ⟨ok_X8_tellsMinute, List.forall_mem_cons.mpr ⟨ok_X8_tellsLog, List.forall_mem_cons.mpr ⟨ok_X8_digest, List.forall_mem_cons.mpr ⟨ok_J6_bitCount_0f7a4, fun _ h => absurd h List.not_mem_nil⟩⟩⟩⟩⟩⟩⟩⟩
theorem okProgL : ∀ r ∈ iProgL, ∀ C ∈ r, iOkP C := List.forall_mem_cons.mpr ⟨okPr0, List.forall_mem_cons.mpr ⟨okPr1, List.forall_mem_cons.mpr ⟨okPr2, List.forall_mem_cons.mpr ⟨okPr3, List.forall_mem_cons.mpr ⟨okPr4, List.forall_mem_cons.mpr ⟨okPr5, List.forall_mem_cons.mpr ⟨okPr6, List.forall_mem_cons.mpr ⟨okPr7, List.forall_mem_cons.mpr ⟨okPr8, List.forall_mem_cons.mpr ⟨okPr9, List.forall_mem_cons.mpr ⟨okPr10, List.forall_mem_cons.mpr ⟨okPr11, List.forall_mem_cons.mpr ⟨okPr12, fun _ h => absurd h List.not_mem_nil⟩⟩⟩⟩⟩⟩⟩⟩⟩⟩⟩⟩⟩
theorem iProg_ok : ∀ n C, iProg n = some C → iOkM C = true ∧ iOkT iProg C = true := by
  intro n C h
  unfold iProg at h
  split at h
  · rename_i r hr
    rw [iLg_eq] at hr h
    exact okProgL r (List.mem_of_getElem? hr) C (List.mem_of_getElem? h)
  · cases h
end
section
theorem okL_0 : iOkC iProg mL_law 0 = true := by decide +kernel
theorem okL_1 : iOkC iProg mL_law 1 = true := by decide +kernel
theorem okL_2 : iOkC iProg mL_law 2 = true := by decide +kernel
theorem okL_3 : iOkC iProg mL_law 3 = true := by decide +kernel
theorem okL_4 : iOkC iProg mL_law 4 = true := by decide +kernel
theorem okL_5 : iOkC iProg mL_law 5 = true := by decide +kernel
theorem okL_6 : iOkC iProg mL_law 6 = true := by decide +kernel
theorem okL_7 : iOkC iProg mL_law 7 = true := by decide +kernel
theorem okL_8 : iOkC iProg mL_law 8 = true := by decide +kernel
theorem okL_9 : iOkC iProg mL_law 9 = true := by decide +kernel
theorem okL_10 : iOkC iProg mL_law 10 = true := by decide +kernel
theorem okL_11 : iOkC iProg mL_law 11 = true := by decide +kernel
theorem okL_12 : iOkC iProg mL_law 12 = true := by decide +kernel
theorem okL_13 : iOkC iProg mL_law 13 = true := by decide +kernel
theorem okL_14 : iOkC iProg mL_law 14 = true := by decide +kernel
theorem okL_15 : iOkC iProg mL_law 15 = true := by decide +kernel
theorem okL_16 : iOkC iProg mL_law 16 = true := by decide +kernel
theorem okL_17 : iOkC iProg mL_law 17 = true := by decide +kernel
theorem okL_18 : iOkC iProg mL_law 18 = true := by decide +kernel
theorem okL_19 : iOkC iProg mL_law 19 = true := by decide +kernel
end
section
theorem okL_20 : iOkC iProg mL_law 20 = true := by decide +kernel
theorem okL_21 : iOkC iProg mL_law 21 = true := by decide +kernel
theorem okL_22 : iOkC iProg mL_law 22 = true := by decide +kernel
theorem okL_23 : iOkC iProg mL_law 23 = true := by decide +kernel
theorem okL_24 : iOkC iProg mL_law 24 = true := by decide +kernel
theorem okL_25 : iOkC iProg mL_law 25 = true := by decide +kernel
theorem okL_26 : iOkC iProg mL_law 26 = true := by decide +kernel
theorem okL_27 : iOkC iProg mL_law 27 = true := by decide +kernel
theorem okL_28 : iOkC iProg mL_law 28 = true := by decide +kernel
theorem okL_29 : iOkC iProg mL_law 29 = true := by decide +kernel
theorem okL_30 : iOkC iProg mL_law 30 = true := by decide +kernel
theorem okL_31 : iOkC iProg mL_law 31 = true := by decide +kernel
theorem okL_32 : iOkC iProg mL_law 32 = true := by decide +kernel
theorem okL_33 : iOkC iProg mL_law 33 = true := by decide +kernel
theorem okL_34 : iOkC iProg mL_law 34 = true := by decide +kernel
theorem okL_35 : iOkC iProg mL_law 35 = true := by decide +kernel
theorem okL_36 : iOkC iProg mL_law 36 = true := by decide +kernel
theorem okL_37 : iOkC iProg mL_law 37 = true := by decide +kernel
theorem okL_38 : iOkC iProg mL_law 38 = true := by decide +kernel
theorem okL_39 : iOkC iProg mL_law 39 = true := by decide +kernel
end
section
theorem okL_40 : iOkC iProg mL_law 40 = true := by decide +kernel
theorem okL_41 : iOkC iProg mL_law 41 = true := by decide +kernel
theorem okL_42 : iOkC iProg mL_law 42 = true := by decide +kernel
theorem okL_43 : iOkC iProg mL_law 43 = true := by decide +kernel
theorem okL_44 : iOkC iProg mL_law 44 = true := by decide +kernel
theorem okL_45 : iOkC iProg mL_law 45 = true := by decide +kernel
theorem okL_46 : iOkC iProg mL_law 46 = true := by decide +kernel
theorem okL_47 : iOkC iProg mL_law 47 = true := by decide +kernel
theorem okL_48 : iOkC iProg mL_law 48 = true := by decide +kernel
theorem okL_49 : iOkC iProg mL_law 49 = true := by decide +kernel
theorem okL_50 : iOkC iProg mL_law 50 = true := by decide +kernel
theorem okL_51 : iOkC iProg mL_law 51 = true := by decide +kernel
theorem okL_52 : iOkC iProg mL_law 52 = true := by decide +kernel
theorem okL_53 : iOkC iProg mL_law 53 = true := by decide +kernel
theorem okL_54 : iOkC iProg mL_law 54 = true := by decide +kernel
theorem okL_55 : iOkC iProg mL_law 55 = true := by decide +kernel
theorem okL_56 : iOkC iProg mL_law 56 = true := by decide +kernel
theorem okL_57 : iOkC iProg mL_law 57 = true := by decide +kernel
theorem okL_58 : iOkC iProg mL_law 58 = true := by decide +kernel
theorem okL_59 : iOkC iProg mL_law 59 = true := by decide +kernel
end
section
theorem okL_60 : iOkC iProg mL_law 60 = true := by decide +kernel
theorem okL_61 : iOkC iProg mL_law 61 = true := by decide +kernel
theorem okL_62 : iOkC iProg mL_law 62 = true := by decide +kernel
theorem okL_63 : iOkC iProg mL_law 63 = true := by decide +kernel
theorem okL_64 : iOkC iProg mL_law 64 = true := by decide +kernel
theorem okL_65 : iOkC iProg mL_law 65 = true := by decide +kernel
theorem okL_66 : iOkC iProg mL_law 66 = true := by decide +kernel
theorem okL_67 : iOkC iProg mL_law 67 = true := by decide +kernel
theorem okL_68 : iOkC iProg mL_law 68 = true := by decide +kernel
theorem okL_69 : iOkC iProg mL_law 69 = true := by decide +kernel
theorem okL_70 : iOkC iProg mL_law 70 = true := by decide +kernel
theorem okL_71 : iOkC iProg mL_law 71 = true := by decide +kernel
theorem okL_72 : iOkC iProg mL_law 72 = true := by decide +kernel
theorem okL_73 : iOkC iProg mL_law 73 = true := by decide +kernel
theorem okL_74 : iOkC iProg mL_law 74 = true := by decide +kernel
theorem okL_75 : iOkC iProg mL_law 75 = true := by decide +kernel
theorem okL_76 : iOkC iProg mL_law 76 = true := by decide +kernel
theorem okL_77 : iOkC iProg mL_law 77 = true := by decide +kernel
theorem okL_78 : iOkC iProg mL_law 78 = true := by decide +kernel
theorem okL_79 : iOkC iProg mL_law 79 = true := by decide +kernel
theorem ok_law : iOkT iProg mL_law = true := by
  apply iOkC_all
  intro k hk
  have hk : k < 80 := hk
  match k, hk with
  | 0, _ => exact okL_0
  | 1, _ => exact okL_1
  | 2, _ => exact okL_2
  | 3, _ => exact okL_3
  | 4, _ => exact okL_4
  | 5, _ => exact okL_5
  | 6, _ => exact okL_6
  | 7, _ => exact okL_7
  | 8, _ => exact okL_8
  | 9, _ => exact okL_9
  | 10, _ => exact okL_10
  | 11, _ => exact okL_11
  | 12, _ => exact okL_12
  | 13, _ => exact okL_13
  | 14, _ => exact okL_14
  | 15, _ => exact okL_15
  | 16, _ => exact okL_16
  | 17, _ => exact okL_17
  | 18, _ => exact okL_18
  | 19, _ => exact okL_19
  | 20, _ => exact okL_20
  | 21, _ => exact okL_21
  | 22, _ => exact okL_22
  | 23, _ => exact okL_23
  | 24, _ => exact okL_24
  | 25, _ => exact okL_25
  | 26, _ => exact okL_26
  | 27, _ => exact okL_27
  | 28, _ => exact okL_28
  | 29, _ => exact okL_29
  | 30, _ => exact okL_30
  | 31, _ => exact okL_31
  | 32, _ => exact okL_32
  | 33, _ => exact okL_33
  | 34, _ => exact okL_34
  | 35, _ => exact okL_35
  | 36, _ => exact okL_36
  | 37, _ => exact okL_37
  | 38, _ => exact okL_38
  | 39, _ => exact okL_39
  | 40, _ => exact okL_40
  | 41, _ => exact okL_41
  | 42, _ => exact okL_42
  | 43, _ => exact okL_43
  | 44, _ => exact okL_44
  | 45, _ => exact okL_45
  | 46, _ => exact okL_46
  | 47, _ => exact okL_47
  | 48, _ => exact okL_48
  | 49, _ => exact okL_49
  | 50, _ => exact okL_50
  | 51, _ => exact okL_51
  | 52, _ => exact okL_52
  | 53, _ => exact okL_53
  | 54, _ => exact okL_54
  | 55, _ => exact okL_55
  | 56, _ => exact okL_56
  | 57, _ => exact okL_57
  | 58, _ => exact okL_58
  | 59, _ => exact okL_59
  | 60, _ => exact okL_60
  | 61, _ => exact okL_61
  | 62, _ => exact okL_62
  | 63, _ => exact okL_63
  | 64, _ => exact okL_64
  | 65, _ => exact okL_65
  | 66, _ => exact okL_66
  | 67, _ => exact okL_67
  | 68, _ => exact okL_68
  | 69, _ => exact okL_69
  | 70, _ => exact okL_70
  | 71, _ => exact okL_71
  | 72, _ => exact okL_72
  | 73, _ => exact okL_73
  | 74, _ => exact okL_74
  | 75, _ => exact okL_75
  | 76, _ => exact okL_76
  | 77, _ => exact okL_77
  | 78, _ => exact okL_78
  | 79, _ => exact okL_79
  | k + 80, hk => exact absurd hk (by omega)
end
section
/-! RUNS of the interpreter, with fuel and depth out of sight -/
section IFuel
variable {E : iExtT} {P : Nat → Option iMeth}
theorem iRun_fuel : ∀ (f f' d : Nat) (M : iMeth) (c : iCfg) (o : iRes), iRun E P f d M c = some o → f ≤ f' → iRun E P f' d M c = some o := by
  intro f
  induction f with
  | zero => intro f' d M c o h; cases h
  | succ f ih =>
    intro f' d M c o h hle
    obtain ⟨g, rfl⟩ : ∃ g, f' = g + 1 := ⟨f' - 1, by omega⟩
    have hle : f ≤ g := by omega
    simp only [iRun] at h ⊢
    split at h
    · cases h
    · rename_i c' hs
      exact ih _ _ _ _ _ h hle
    · exact h
    · rename_i n as c' hs
      split at h
      · cases h
      · rename_i d'
        split at h
        · cases h
        · rename_i C hPC
          cases hg : Nat.ble (iCat as) C.2.2.1 with
          | false => rw [hg] at h; cases h
          | true =>
            rw [hg] at h
            simp only [cond_true] at h ⊢
            split at h
            · cases h
            · rename_i r h' hr
              rw [ih _ _ _ _ _ hr hle]
              exact ih _ _ _ _ _ h hle
def iSetL (L : List (Nat × Value)) : iOut → iOut
  | .inl (pc, _, S, h) => .inl (pc, L, S, h)
  | .inr (.inl (n, as, (pc, _, S, h))) => .inr (.inl (n, as, (pc, L, S, h)))
  | .inr (.inr r) => .inr (.inr r)
def iLoc : Instr → Bool
  | .iload _ => true | .iload_n _ => true | .lload _ => true | .lload_n _ => true | .aload _ => true | .aload_n _ => true
  | .istore _ => true | .istore_n _ => true | .lstore _ => true | .lstore_n _ => true | .astore _ => true | .astore_n _ => true
  | .iinc _ _ => true
  | _ => false
theorem iEx_L {np nk : Nat → Nat} {ret : Option FieldType} {pc : Nat} {ins : Instr} {nx res : Nat} {val : Value} {pos : Nat} {S : List Value} {h : List va_E} (L : List (Nat × Value)) (hl : iLoc ins = false) : iEx E np nk ret pc (ins, nx, res, val, pos) L S h = (iEx E np nk ret pc (ins, nx, res, val, pos) [] S h).map (iSetL L) := by
  cases ins <;> first | (cases hl; done) | skip
  all_goals simp only [iEx, iBin, iBil, iUn, iGetf, iPutf, iAld, iAll, iAla, iAlen, iAst, iAsl, iAsa, iNewa, iNewq, iCopy, iMax, iMin, iOI, iSw, iCmp, iCallS, iCallI, iCallV, cond_eq_ite]
  all_goals (repeat' split)
  all_goals rfl
def iSub (L' L : List (Nat × Value)) : Prop := ∀ q ∈ L', iLget L q.1 = some q.2
def iSb : List (Nat × Value) → List (Nat × Value) → Prop
  | [], _ => True
  | (i, v) :: t, L => iLget L i = some v ∧ iSb t L
theorem iSb_sub {L L' : List (Nat × Value)} (h : iSb L' L) : iSub L' L := by
  induction L' with
  | nil => intro q hq; cases hq
  | cons q t ih =>
    obtain ⟨i, v⟩ := q
    intro r hr
    rcases List.mem_cons.mp hr with rfl | hr
    · exact h.1
    · exact ih h.2 r hr
theorem iLget_in {L : List (Nat × Value)} {i : Nat} {v : Value} (h : iLget L i = some v) : (i, v) ∈ L := by
  obtain ⟨k, hk⟩ := iLget_mem h
  exact List.mem_of_getElem? hk
theorem iSub_get {L' L : List (Nat × Value)} (hs : iSub L' L) {i : Nat} {v : Value} (h : iLget L' i = some v) : iLget L i = some v := hs _ (iLget_in h)
theorem iLget_filter {p : Nat × Value → Bool} {L : List (Nat × Value)} {i : Nat} {v : Value} (h : iLget L i = some v) (hp : p (i, v) = true) : iLget (L.filter p) i = some v := by
  induction L with
  | nil => cases h
  | cons q L ih =>
    obtain ⟨j, w⟩ := q
    simp only [iLget] at h
    by_cases hj : j = i
    · subst hj
      rw [if_pos rfl] at h
      cases h
      rw [List.filter_cons_of_pos hp]
      simp [iLget]
    · rw [if_neg hj] at h
      by_cases hq : p (j, w) = true
      · rw [List.filter_cons_of_pos hq]
        simp only [iLget, if_neg hj]
        exact ih h
      · rw [List.filter_cons_of_neg hq]
        exact ih h
theorem iSub_st {L' L : List (Nat × Value)} (hs : iSub L' L) (i : Nat) (x : Value) {p : Nat × Value → Bool} (hp : ∀ q, p q = true → q.1 ≠ i) : iSub ((i, x) :: L'.filter p) ((i, x) :: L.filter p) := by
  intro q hq
  rcases List.mem_cons.mp hq with rfl | hq
  · simp [iLget]
  · obtain ⟨h1, h2⟩ := List.mem_filter.mp hq
    have hne := hp q h2
    simp only [iLget, if_neg (Ne.symm hne)]
    exact iLget_filter (hs q h1) h2
theorem iP1_ne {i : Nat} (q : Nat × Value) (h : iP1 i q = true) : q.1 ≠ i := by
  intro he
  simp [iP1, he] at h
theorem iP2_ne {i : Nat} (q : Nat × Value) (h : iP2 i q = true) : q.1 ≠ i := by
  intro he
  simp [iP2, he] at h
theorem iEx_sub {np nk : Nat → Nat} {ret : Option FieldType} {pc : Nat} {en : iEnt} {L' L : List (Nat × Value)} {S : List Value} {h : List va_E} (hs : iSub L' L) {o' : iOut} (hx : iEx E np nk ret pc en L' S h = some o') : ∃ L1' L1 : List (Nat × Value), o' = iSetL L1' o' ∧ iSub L1' L1 ∧ iEx E np nk ret pc en L S h = some (iSetL L1 o') := by
  obtain ⟨ins, nx, res, val, pos⟩ := en
  cases hl : iLoc ins with
  | false =>
    rw [iEx_L L' hl] at hx
    rw [iEx_L L hl]
    cases h0 : iEx E np nk ret pc (ins, nx, res, val, pos) [] S h with
    | none => rw [h0] at hx; cases hx
    | some o0 =>
      rw [h0] at hx
      cases hx
      refine ⟨L', L, ?_, hs, ?_⟩
      · rcases o0 with ⟨a, b, c, d⟩ | ⟨a, b, c, d, e, f⟩ | r <;> rfl
      · rcases o0 with ⟨a, b, c, d⟩ | ⟨a, b, c, d, e, f⟩ | r <;> rfl
  | true =>
    cases ins <;> first | (cases hl; done) | skip
    all_goals simp only [iEx, iLdI, iLdL, iLdA, iStI, iStL, iStA, iLfl_eq] at hx ⊢
    all_goals (split at hx <;> first | (cases hx; done) | skip)
    all_goals first
      | (rename_i hg; cases hx; exact ⟨L', L, rfl, hs, by rw [iSub_get hs hg]; rfl⟩)
      | (cases hx; exact ⟨_, _, rfl, iSub_st hs _ _ iP1_ne, rfl⟩)
      | (cases hx; exact ⟨_, _, rfl, iSub_st hs _ _ iP2_ne, rfl⟩)
      | (rename_i hg; cases hx; exact ⟨_, _, rfl, iSub_st hs _ _ iP1_ne, by rw [iSub_get hs hg]; rfl⟩)
theorem iRun_sub : ∀ (f d : Nat) (M : iMeth) (pc : Nat) (L' L : List (Nat × Value)) (S : List Value) (h : List va_E) (o : iRes), iSub L' L → iRun E P f d M (pc, L', S, h) = some o → iRun E P f d M (pc, L, S, h) = some o := by
  intro f
  induction f with
  | zero => intro d M pc L' L S h o _ hr; cases hr
  | succ f ih =>
    intro d M pc L' L S h o hs hr
    simp only [iRun, iStep] at hr ⊢
    cases hf : iFetch M.2.2.2.2.2.2.2 pc with
    | none => rw [hf] at hr; cases hr
    | some en =>
      rw [hf] at hr
      dsimp only at hr ⊢
      cases hx : iEx E (iNp P) (iNk P) M.2.2.2.1 pc en L' S h with
      | none => rw [hx] at hr; cases hr
      | some o' =>
        obtain ⟨L1', L1, e1, hs1, e2⟩ := iEx_sub hs hx
        rw [hx] at hr
        rw [e2]
        rcases o' with ⟨a, b, c, d'⟩ | ⟨n, as, a, b, c, d'⟩ | r
        · cases e1
          exact ih _ _ _ _ _ _ _ _ hs1 hr
        · cases e1
          dsimp only [iSetL] at hr ⊢
          split at hr
          · cases hr
          · rename_i dd
            split at hr
            · cases hr
            · rename_i C hPC
              cases hg : Nat.ble (iCat as) C.2.2.1 with
              | false => rw [hg] at hr; cases hr
              | true =>
                rw [hg] at hr
                simp only [cond_true] at hr ⊢
                split at hr
                · cases hr
                · rename_i r h' hrC
                  exact ih _ _ _ _ _ _ _ _ hs1 hr
        · exact hr
end IFuel
def Rn (E : iExtT) (hh : Nat) (M : iMeth) (c : iCfg) (o : iRes) : Prop := ∃ f, ∀ d, hh ≤ d → iRun E iProg f d M c = some o
section IRn
variable {E : iExtT} {hh : Nat} {M : iMeth} {c c' c1 c2 : iCfg} {o : iRes} {r : Option Value} {p : Prop}
theorem Rn.step (h : iStep E iProg M c = some (.inl c')) (k : Rn E hh M c' o) : Rn E hh M c o := by
  obtain ⟨f, k⟩ := k
  exact ⟨f + 1, fun d hd => by simp only [iRun, h]; exact k d hd⟩
theorem Rn.ret (h : iStep E iProg M c = some (.inr (.inr r))) : Rn E hh M c (r, c.2.2.2) := ⟨1, fun d _ => by simp only [iRun, h]⟩
theorem Rn.retb [Decidable p] (h : iStep E iProg M c = if p then some (.inr (.inr r)) else none) (hp : p) : Rn E hh M c (r, c.2.2.2) := Rn.ret (by rw [h, if_pos hp])
theorem Rn.br [Decidable p] (h : iStep E iProg M c = if p then some (.inl c1) else some (.inl c2)) (k1 : p → Rn E hh M c1 o) (k2 : ¬ p → Rn E hh M c2 o) : Rn E hh M c o := by
  by_cases hp : p
  · exact Rn.step (by rw [h, if_pos hp]) (k1 hp)
  · exact Rn.step (by rw [h, if_neg hp]) (k2 hp)
theorem Rn.br1 [Decidable p] (h : iStep E iProg M c = if p then some (.inl c1) else some (.inl c2)) (hp : p) (k1 : Rn E hh M c1 o) : Rn E hh M c o := Rn.step (by rw [h, if_pos hp]) k1
theorem Rn.br2 [Decidable p] (h : iStep E iProg M c = if p then some (.inl c1) else some (.inl c2)) (hp : ¬ p) (k1 : Rn E hh M c2 o) : Rn E hh M c o := Rn.step (by rw [h, if_neg hp]) k1
theorem Rn.chk [Decidable p] (h : iStep E iProg M c = if p then some (.inl c1) else none) (hp : p) (k1 : Rn E hh M c1 o) : Rn E hh M c o := Rn.step (by rw [h, if_pos hp]) k1
theorem Rn.call {hc n : Nat} {as : List Value} {C : iMeth} {h' : List va_E} (h : iStep E iProg M c = some (.inr (.inl (n, as, c')))) (hP : iProg n = some C) (hg : Nat.ble (iCat as) C.2.2.1 = true) (hlt : hc + 1 ≤ hh) (k1 : Rn E hc C (0, lv_args 0 as, [], c'.2.2.2) (r, h')) (k2 : Rn E hh M (c'.1, c'.2.1, r.toList ++ c'.2.2.1, h') o) : Rn E hh M c o := by
  obtain ⟨f1, k1⟩ := k1
  obtain ⟨f2, k2⟩ := k2
  refine ⟨max f1 f2 + 1, fun d hd => ?_⟩
  obtain ⟨d', rfl⟩ : ∃ d', d = d' + 1 := ⟨d - 1, by omega⟩
  simp only [iRun, h, hP, hg, cond_true, iRun_fuel _ _ _ _ _ _ (k1 d' (by omega)) (Nat.le_max_left f1 f2)]
  exact iRun_fuel _ _ _ _ _ _ (k2 (d' + 1) hd) (Nat.le_max_right f1 f2)
theorem Rn.sub {pc : Nat} {L' L : List (Nat × Value)} {S : List Value} {h : List va_E} (hs : iSb L' L) (k : Rn E hh M (pc, L', S, h) o) : Rn E hh M (pc, L, S, h) o := by
  obtain ⟨f, k⟩ := k
  exact ⟨f, fun d hd => iRun_sub _ _ _ _ _ _ _ _ _ (iSb_sub hs) (k d hd)⟩
theorem Rn.eq {c : iCfg} (h : c = c') (k : Rn E hh M c' o) : Rn E hh M c o := h ▸ k
theorem Rn.out {o' : iRes} (h : o = o') (k : Rn E hh M c o) : Rn E hh M c o' := h ▸ k
end IRn
end
section
/-! THE WORLD of the pure rows, and rows for loops, arrays -/
abbrev cI (n : Nat) (f : Nat → Int32) : va_E := .inl (0, n, .inl f)
abbrev cL (n : Nat) (f : Nat → Int64) : va_E := .inl (1, n, .inr (.inl f))
abbrev cQ (t n : Nat) (f : Nat → Option Nat) : va_E := .inl (t, n, .inr (.inr (.inr (.inr f))))
def txF : Nat → Option Nat := va_up (va_up (va_up (fun _ => none) 0 (some 39)) 1 (some 41)) 2 (some 43)
def shF : Nat → Option Nat := va_up (va_up (va_up (va_up (fun _ => none) 0 (some 45)) 1 (some 47)) 2 (some 49)) 3 (some 51)
def wX (a : Nat → Nat → Int32) (v : Nat → Int32) (t : Nat → Nat → Int64) (r : List va_E) : List va_E :=
  .inr (7, [.ref 1, .ref 2, .ref 3, .ref 9, .ref 13, .ref 17, .int (v 0), .int (v 1), .ref 18, .ref 22, .ref 27, .ref 31, .ref 36, .ref 37, .ref 38, .int (v 2), .int (v 3)]) ::
  cQ 2 3 txF :: cI 3 (a 2) ::
  .inr (5, [.ref 4, .ref 5, .ref 6, .ref 7, .ref 8, .int (v 4)]) :: cI 16 (a 4) :: cI 16 (a 5) :: cI 8 (a 6) :: cI 8 (a 7) :: cI 8 (a 8) ::
  .inr (1, [.ref 10, .ref 11, .ref 12, .int (v 5)]) :: cI 8 (a 10) :: cI 8 (a 11) :: cI 8 (a 12) ::
  .inr (3, [.ref 14, .ref 15, .ref 16, .int (v 6)]) :: cI 8 (a 14) :: cI 8 (a 15) :: cI 8 (a 16) ::
  cQ 3 4 shF ::
  .inr (6, [.ref 19, .ref 20, .ref 21]) :: cI 384 (a 19) :: cI 24 (a 20) :: cI 24 (a 21) ::
  .inr (0, [.ref 23, .ref 24, .ref 25, .ref 26, .int (v 7), .int (v 8)]) :: cI 192 (a 23) :: cI 192 (a 24) :: cI 24 (a 25) :: cI 8 (a 26) ::
  .inr (6, [.ref 28, .ref 29, .ref 30]) :: cI 384 (a 28) :: cI 24 (a 29) :: cI 24 (a 30) ::
  .inr (0, [.ref 32, .ref 33, .ref 34, .ref 35, .int (v 9), .int (v 10)]) :: cI 192 (a 32) :: cI 192 (a 33) :: cI 24 (a 34) :: cI 8 (a 35) ::
  cI 16 (a 36) :: cI 256 (a 37) :: cL 240 (t 0) ::
  .inr (4, [.ref 40, .int (v 11)]) :: cI 16 (a 40) :: .inr (4, [.ref 42, .int (v 12)]) :: cI 16 (a 42) :: .inr (4, [.ref 44, .int (v 13)]) :: cI 31 (a 44) ::
  .inr (2, [.ref 46, .int (v 14), .int (v 18)]) :: cI 60 (a 46) :: .inr (2, [.ref 48, .int (v 15), .int (v 19)]) :: cI 60 (a 48) ::
  .inr (2, [.ref 50, .int (v 16), .int (v 20)]) :: cI 60 (a 50) :: .inr (2, [.ref 52, .int (v 17), .int (v 21)]) :: cI 60 (a 52) :: r
def wM (a : Nat → Nat → Int32) (v : Nat → Int32) (t : Nat → Nat → Int64) : List va_E :=
  [.inr (8, [.ref 54, .ref 55, .ref 56, .ref 57, .int (v 30), .ref 58, .ref 59, .ref 60, .ref 61, .int (v 31), .ref 62, .int (v 32), .ref 63, .int (v 33), .ref 64, .ref 65, .ref 66, .ref 67, .ref 68, .ref 69, .ref 70, .ref 71, .ref 72, .int (v 34), .ref 73, .ref 74, .int (v 35)]),
   cI 4 (a 54), cI 4 (a 55), cI 240 (a 56), cI 60 (a 57), cI 96 (a 58), cI 3 (a 59), cI 16 (a 60), cI 16 (a 61), cI 24 (a 62), cI 24 (a 63), cI 16 (a 64), cI 8 (a 65), cI 8 (a 66), cI 8 (a 67), cI 8 (a 68), cI 8 (a 69), cI 384 (a 70), cI 192 (a 71), cI 192 (a 72), cI 24 (a 73), cL 240 (t 1)]
/-- a yes or no as Java has it -/
def ib (p : Prop) [Decidable p] : Int32 := if p then 1 else 0
theorem ib_t {p : Prop} [Decidable p] (h : p) : ib p = 1 := if_pos h
theorem ib_f {p : Prop} [Decidable p] (h : ¬ p) : ib p = 0 := if_neg h
theorem ib_01 (p : Prop) [Decidable p] : ib p = 0 ∨ ib p = 1 := by unfold ib; split <;> simp
theorem ib_eq0 {p : Prop} [Decidable p] : (ib p = 0) ↔ ¬ p := by
  unfold ib; split <;> rename_i h <;> simp [h]
theorem ib_ne0 {p : Prop} [Decidable p] : (¬ ib p = 0) ↔ p := by rw [ib_eq0]; exact Decidable.not_not
theorem ib_congr {p q : Prop} [Decidable p] [Decidable q] (h : p ↔ q) : ib p = ib q := by
  unfold ib; by_cases hp : p
  · rw [if_pos hp, if_pos (h.mp hp)]
  · rw [if_neg hp, if_neg (fun hq => hp (h.mpr hq))]
/-- a loop that goes up: j rounds from i on -/
def lp {σ : Type} (f : Nat → σ → σ) : Nat → Nat → σ → σ
  | _, 0, s => s
  | i, j + 1, s => lp f (i + 1) j (f i s)
theorem lp_end {σ : Type} (f : Nat → σ → σ) (i j : Nat) (s : σ) : lp f i (j + 1) s = f (i + j) (lp f i j s) := by
  induction j generalizing i s with
  | zero => rfl
  | succ j ih =>
    show lp f (i + 1) (j + 1) (f i s) = _
    rw [ih (i + 1) (f i s)]
    show f (i + 1 + j) (lp f (i + 1) j (f i s)) = f (i + (j + 1)) (lp f (i + 1) j (f i s))
    congr 1
    omega
theorem lp_congr {σ : Type} {f g : Nat → σ → σ} {i j : Nat} {s : σ} (h : ∀ k s, i ≤ k → k < i + j → f k s = g k s) : lp f i j s = lp g i j s := by
  induction j generalizing i s with
  | zero => rfl
  | succ j ih =>
    show lp f (i + 1) j (f i s) = lp g (i + 1) j (g i s)
    rw [h i s (Nat.le_refl _) (by omega)]
    exact ih (fun k s h1 h2 => h k s (by omega) (by omega))
theorem lp_inv {σ : Type} {f : Nat → σ → σ} (I : Nat → σ → Prop) {i j : Nat} {s : σ} (h0 : I i s) (h : ∀ k s, i ≤ k → k < i + j → I k s → I (k + 1) (f k s)) : I (i + j) (lp f i j s) := by
  induction j with
  | zero => exact h0
  | succ j ih =>
    rw [lp_end]
    exact h (i + j) _ (by omega) (by omega) (ih (fun k s h1 h2 => h k s h1 (by omega)))
section IRn2
variable {E : iExtT} {hh : Nat} {M : iMeth} {o : iRes} {pc nx : Nat} {L : List (Nat × Value)} {S S' : List Value} {h h2 : List va_E}
theorem Rn.top {x x' : Int32} (hx : x = x') (k : Rn E hh M (pc, L, .int x' :: S, h) o) : Rn E hh M (pc, L, .int x :: S, h) o := hx ▸ k
theorem Rn.topl {x x' : Int64} (hx : x = x') (k : Rn E hh M (pc, L, .long x' :: S, h) o) : Rn E hh M (pc, L, .long x :: S, h) o := hx ▸ k
theorem Rn.hp (hx : h = h2) (k : Rn E hh M (pc, L, S, h2) o) : Rn E hh M (pc, L, S, h) o := hx ▸ k
theorem Rn.ald {i : Int32} {n : Nat} {f : Nat → Int32} (k : Nat) (hst : iStep E iProg M (pc, L, S, h) = if ¬ (i < 0 ∨ n ≤ i.toNatClampNeg) then iNx nx L (.int (f i.toNatClampNeg) :: S') h2 else none) (hi : i = nI k) (hk : k < n) (hn : n < 2 ^ 31) (kk : Rn E hh M (nx, L, .int (f k) :: S', h2) o) : Rn E hh M (pc, L, S, h) o := by
  subst hi
  refine Rn.chk hst (nI_in hk hn) ?_
  rw [nI_clamp (Nat.lt_trans hk hn)]
  exact kk
theorem Rn.ast {i x : Int32} {n A : Nat} {f : Nat → Int32} {h3 : List va_E} (k : Nat) (hst : iStep E iProg M (pc, L, S, h) = if ¬ (i < 0 ∨ n ≤ i.toNatClampNeg) then iNx nx L S' (h2.set A (.inl (0, n, .inl (upd f i.toNatClampNeg x)))) else none) (hi : i = nI k) (hk : k < n) (hn : n < 2 ^ 31) (he : h2.set A (.inl (0, n, .inl (upd f k x))) = h3) (kk : Rn E hh M (nx, L, S', h3) o) : Rn E hh M (pc, L, S, h) o := by
  subst hi
  subst he
  refine Rn.chk hst (nI_in hk hn) ?_
  rw [nI_clamp (Nat.lt_trans hk hn)]
  exact kk
theorem Rn.lp {σ : Type} {cfg : Nat → σ → iCfg} {f : Nat → σ → σ} {n : Nat} (I : Nat → σ → Prop) (hs : ∀ i s, i < n → I i s → I (i + 1) (f i s) ∧ (Rn E hh M (cfg (i + 1) (f i s)) o → Rn E hh M (cfg i s) o)) : ∀ (j i : Nat) (s : σ), i + j = n → I i s → (∀ s', s' = lp f i j s → I n s' → Rn E hh M (cfg n s') o) → Rn E hh M (cfg i s) o := by
  intro j
  induction j with
  | zero =>
    intro i s hi hI hk
    have : i = n := by omega
    subst this
    exact hk s rfl hI
  | succ j ih =>
    intro i s hi hI hk
    obtain ⟨h1, h2⟩ := hs i s (by omega) hI
    exact h2 (ih (i + 1) (f i s) (by omega) h1 hk)
theorem Rn.ind {cfg : Nat → iCfg} {out : Nat → Nat → iRes} {n : Nat} (h0 : Rn E hh M (cfg n) (out n 0)) (hs : ∀ i j, i + (j + 1) = n → Rn E hh M (cfg (i + 1)) (out (i + 1) j) → Rn E hh M (cfg i) (out i (j + 1))) : ∀ j i, i + j = n → Rn E hh M (cfg i) (out i j) := by
  intro j
  induction j with
  | zero => intro i hi; rw [show i = n by omega]; exact h0
  | succ j ih => intro i hi; exact hs i j hi (ih (i + 1) (by omega))
theorem Rn.calli {c : iCfg} {hc n : Nat} {as : List Value} {C : iMeth} {L' : List (Nat × Value)} {h1 h' : List va_E} {y : Int32} (hs : iStep E iProg M c = some (.inr (.inl (n, as, (nx, L', S', h1))))) (hP : iProg n = some C) (hg : Nat.ble (iCat as) C.2.2.1 = true) (hlt : hc + 1 ≤ hh) (k1 : Rn E hc C (0, lv_args 0 as, [], h1) (some (.int y), h')) (k2 : ∀ x : Int32, x = y → Rn E hh M (nx, L', .int x :: S', h') o) : Rn E hh M c o := Rn.call hs hP hg hlt k1 (k2 y rfl)
theorem Rn.calll {c : iCfg} {hc n : Nat} {as : List Value} {C : iMeth} {L' : List (Nat × Value)} {h1 h' : List va_E} {y : Int64} (hs : iStep E iProg M c = some (.inr (.inl (n, as, (nx, L', S', h1))))) (hP : iProg n = some C) (hg : Nat.ble (iCat as) C.2.2.1 = true) (hlt : hc + 1 ≤ hh) (k1 : Rn E hc C (0, lv_args 0 as, [], h1) (some (.long y), h')) (k2 : ∀ x : Int64, x = y → Rn E hh M (nx, L', .long x :: S', h') o) : Rn E hh M c o := Rn.call hs hP hg hlt k1 (k2 y rfl)
theorem Rn.callv {c : iCfg} {hc n : Nat} {as : List Value} {C : iMeth} {L' : List (Nat × Value)} {h1 h' : List va_E} (hs : iStep E iProg M c = some (.inr (.inl (n, as, (nx, L', S', h1))))) (hP : iProg n = some C) (hg : Nat.ble (iCat as) C.2.2.1 = true) (hlt : hc + 1 ≤ hh) (k1 : Rn E hc C (0, lv_args 0 as, [], h1) (none, h')) (k2 : Rn E hh M (nx, L', S', h') o) : Rn E hh M c o := Rn.call hs hP hg hlt k1 k2
theorem Rn.gen {x : Int32} (k : ∀ y : Int32, y = x → Rn E hh M (pc, L, .int y :: S, h) o) : Rn E hh M (pc, L, .int x :: S, h) o := k x rfl
theorem Rn.mono {hh' : Nat} {c : iCfg} (k : Rn E hh M c o) (hl : hh ≤ hh') : Rn E hh' M c o := by
  obtain ⟨f, k⟩ := k
  exact ⟨f, fun d hd => k d (Nat.le_trans hl hd)⟩
end IRn2
theorem ix_ma (m c s : Nat) : nI m * nI c + nI s = nI (m * c + s) := by rw [pk_mul, nI_add]
theorem ix_am (c m s : Nat) : nI c * nI m + nI s = nI (c * m + s) := by rw [pk_mul, nI_add]
theorem nle {n i : Nat} (h : i < n) (hn : n < 2 ^ 31) : ¬ nI n ≤ nI i := nI_ge h hn
section R1
variable {E : iExtT} {a : Nat → Nat → Int32} {v : Nat → Int32} {t : Nat → Nat → Int64} {r : List va_E}
theorem r_within (n b : Int32) (h : List va_E) : Rn E 0 mX7_within (0, [(0, .int n), (1, .int b)], [], h) (some (.int (ib (0 ≤ n ∧ n < b))), h) := by
  refine Rn.step rfl ?_
  refine Rn.br rfl (fun h1 => ?_) (fun h1 => ?_)
  · refine Rn.step rfl ?_
    rw [ib_f (fun q => absurd q.1 (Int32.not_le.mpr h1))]
    exact Rn.ret rfl
  · refine Rn.step rfl ?_
    refine Rn.step rfl ?_
    refine Rn.br rfl (fun h2 => ?_) (fun h2 => ?_)
    · refine Rn.step rfl ?_
      rw [ib_f (fun q => absurd q.2 (Int32.not_lt.mpr h2))]
      exact Rn.ret rfl
    · refine Rn.step rfl ?_
      refine Rn.step rfl ?_
      rw [ib_t ⟨Int32.not_lt.mp h1, Int32.not_le.mp h2⟩]
      exact Rn.ret rfl
/-- how much water is in all spans behind a minute -/
def tog (le : Nat → Int32) (m : Nat) : Int32 := lp (fun s x => x + le (m * 16 + s)) 0 16 0
theorem r_together (m : Nat) (hm : m < 24) : Rn E 0 mX6_together (0, [(0, .ref 18), (1, .int (nI m))], [], wX a v t r) (some (.int (tog (a 19) m)), wX a v t r) := by
  iterate 4 refine Rn.step rfl ?_
  refine Rn.lp (σ := Int32) (cfg := fun i s => (4, [(3, .int (nI i)), (2, .int s), (0, .ref 18), (1, .int (nI m))], [], wX a v t r)) (f := fun s x => x + a 19 (m * 16 + s)) (n := 16) (fun _ _ => True) (fun i s hi _ => ⟨trivial, fun k => ?_⟩) 16 0 0 rfl trivial (fun s' hs' _ => ?_)
  · iterate 2 refine Rn.step rfl ?_
    refine Rn.br2 rfl (nle hi (by decide)) ?_
    iterate 8 refine Rn.step rfl ?_
    refine Rn.ald (m * 16 + i) rfl (ix_ma m 16 i) (by omega) (by decide) ?_
    iterate 4 refine Rn.step rfl ?_
    rw [nI_succ] at k
    exact k
  · iterate 2 refine Rn.step rfl ?_
    refine Rn.step rfl ?_
    refine Rn.step rfl ?_
    subst hs'
    exact Rn.ret rfl
end R1
end
section
section X1
variable {E : iExtT} {a : Nat → Nat → Int32} {v : Nat → Int32} {t : Nat → Nat → Int64} {r : List va_E}
/-- the bit test of the code -/
abbrev bt (x : Int32) (e : Nat) : Prop := (x >>> (nI e &&& 31)) &&& 1 = 1
abbrev sh1 (x : Int32) : Int32 := 1 <<< (x &&& 31)
def mkA (kda : Nat → Int32) (mn : Nat → Nat) (nu : Nat → Int32) (k : Nat) (kd kp : Int32) (f0 : Nat → Int32) : Nat → Int32 :=
  lp (fun e g => if kda e = kd ∧ bt kp e then upd g (mn e) (g (mn e) ||| sh1 (nu e)) else g) 0 k (lp (fun m g => upd g m 0) 0 24 f0)
theorem r_mark {K : Nat} (hK : K = 20 ∨ K = 21 ∨ K = 25 ∨ K = 29 ∨ K = 30 ∨ K = 34) (kd kp : Int32) {k : Nat} (hk : k ≤ 8) (hv : v 5 = nI k) {mn : Nat → Nat} (hmn : ∀ e, e < k → a 11 e = nI (mn e) ∧ mn e < 24) : Rn E 0 mX1_mark (0, [(0, .ref 9), (1, .int kd), (2, .int kp), (3, .ref K)], [], wX a v t r) (none, wX (va_up a K (mkA (a 10) mn (a 12) k kd kp (a K))) v t r) := by
  rcases hK with rfl | rfl | rfl | rfl | rfl | rfl
  · skip
    iterate 2 refine Rn.step rfl ?_
    refine Rn.lp (σ := Nat → Int32) (cfg := fun i g => (3, [(4, .int (nI i)), (0, .ref 9), (1, .int kd), (2, .int kp), (3, .ref 20)], [], wX (va_up a 20 g) v t r)) (f := fun m g => upd g m 0) (n := 24) (fun _ _ => True) (fun i g hi _ => ⟨trivial, fun k => ?_⟩) 24 0 (a 20) rfl trivial (fun g0 hg0 _ => ?_)
    · repeat refine Rn.step rfl ?_
      refine Rn.br2 rfl (nle hi (by decide)) ?_
      repeat refine Rn.step rfl ?_
      refine Rn.ast i rfl rfl hi (by decide) (h3 := wX (va_up a 20 (upd g i 0)) v t r) rfl ?_
      iterate 2 refine Rn.step rfl ?_
      rw [nI_succ] at k
      exact k
    · iterate 6 refine Rn.step rfl ?_
      refine Rn.lp (σ := Nat → Int32) (cfg := fun e g => (24, [(4, .int (nI e)), (0, .ref 9), (1, .int kd), (2, .int kp), (3, .ref 20)], [], wX (va_up a 20 g) v t r)) (f := fun e g => if a 10 e = kd ∧ bt kp e then upd g (mn e) (g (mn e) ||| sh1 (a 12 e)) else g) (n := k) (fun _ _ => True) (fun e g he _ => ⟨trivial, fun kk => ?_⟩) k 0 g0 (by omega) trivial (fun g1 hg1 _ => ?_)
      · rw [nI_succ] at kk
        repeat refine Rn.step rfl ?_
        refine Rn.br2 rfl (by show ¬ v 5 ≤ nI e; rw [hv]; exact nle he (by omega)) ?_
        repeat refine Rn.step rfl ?_
        refine Rn.br2 rfl (nle (n := 8) (by omega) (by decide)) ?_
        repeat refine Rn.step rfl ?_
        refine Rn.ald e rfl rfl (by omega) (by decide) ?_
        repeat refine Rn.step rfl ?_
        refine Rn.ald e rfl rfl (by omega) (by decide) ?_
        repeat refine Rn.step rfl ?_
        refine Rn.br rfl (fun h1 => ?_) (fun h1 => ?_)
        · rw [if_neg (fun q => h1 q.1)] at kk
          iterate 2 refine Rn.step rfl ?_
          exact Rn.sub (by exact ⟨rfl, rfl, rfl, rfl, rfl, trivial⟩) kk
        · repeat refine Rn.step rfl ?_
          refine Rn.br rfl (fun h2 => ?_) (fun h2 => ?_)
          · rw [if_neg (fun q => h2 q.2)] at kk
            iterate 2 refine Rn.step rfl ?_
            exact Rn.sub (by exact ⟨rfl, rfl, rfl, rfl, rfl, trivial⟩) kk
          · rw [if_pos ⟨Decidable.not_not.mp h1, Decidable.not_not.mp h2⟩] at kk
            repeat refine Rn.step rfl ?_
            refine Rn.br2 rfl (by show ¬ a 11 e < 0; rw [(hmn e he).1]; exact nI_pos (by have := (hmn e he).2; omega)) ?_
            repeat refine Rn.step rfl ?_
            refine Rn.br2 rfl (by show ¬ nI 24 ≤ a 11 e; rw [(hmn e he).1]; exact nle (hmn e he).2 (by decide)) ?_
            repeat refine Rn.step rfl ?_
            refine Rn.ald (mn e) rfl (hmn e he).1 (hmn e he).2 (by decide) ?_
            repeat refine Rn.step rfl ?_
            refine Rn.ald e rfl rfl (by omega) (by decide) ?_
            repeat refine Rn.step rfl ?_
            refine Rn.ast (mn e) rfl (hmn e he).1 (hmn e he).2 (by decide) (h3 := wX (va_up a 20 (upd g (mn e) (g (mn e) ||| sh1 (a 12 e)))) v t r) rfl ?_
            iterate 2 refine Rn.step rfl ?_
            exact Rn.sub (by exact ⟨rfl, rfl, rfl, rfl, rfl, trivial⟩) kk
      · repeat refine Rn.step rfl ?_
        refine Rn.br1 rfl (by show v 5 ≤ nI k; rw [hv]; exact Int32.le_refl _) ?_
        subst hg0
        subst hg1
        exact Rn.ret rfl
  · skip
    iterate 2 refine Rn.step rfl ?_
    refine Rn.lp (σ := Nat → Int32) (cfg := fun i g => (3, [(4, .int (nI i)), (0, .ref 9), (1, .int kd), (2, .int kp), (3, .ref 21)], [], wX (va_up a 21 g) v t r)) (f := fun m g => upd g m 0) (n := 24) (fun _ _ => True) (fun i g hi _ => ⟨trivial, fun k => ?_⟩) 24 0 (a 21) rfl trivial (fun g0 hg0 _ => ?_)
    · repeat refine Rn.step rfl ?_
      refine Rn.br2 rfl (nle hi (by decide)) ?_
      repeat refine Rn.step rfl ?_
      refine Rn.ast i rfl rfl hi (by decide) (h3 := wX (va_up a 21 (upd g i 0)) v t r) rfl ?_
      iterate 2 refine Rn.step rfl ?_
      rw [nI_succ] at k
      exact k
    · iterate 6 refine Rn.step rfl ?_
      refine Rn.lp (σ := Nat → Int32) (cfg := fun e g => (24, [(4, .int (nI e)), (0, .ref 9), (1, .int kd), (2, .int kp), (3, .ref 21)], [], wX (va_up a 21 g) v t r)) (f := fun e g => if a 10 e = kd ∧ bt kp e then upd g (mn e) (g (mn e) ||| sh1 (a 12 e)) else g) (n := k) (fun _ _ => True) (fun e g he _ => ⟨trivial, fun kk => ?_⟩) k 0 g0 (by omega) trivial (fun g1 hg1 _ => ?_)
      · rw [nI_succ] at kk
        repeat refine Rn.step rfl ?_
        refine Rn.br2 rfl (by show ¬ v 5 ≤ nI e; rw [hv]; exact nle he (by omega)) ?_
        repeat refine Rn.step rfl ?_
        refine Rn.br2 rfl (nle (n := 8) (by omega) (by decide)) ?_
        repeat refine Rn.step rfl ?_
        refine Rn.ald e rfl rfl (by omega) (by decide) ?_
        repeat refine Rn.step rfl ?_
        refine Rn.ald e rfl rfl (by omega) (by decide) ?_
        repeat refine Rn.step rfl ?_
        refine Rn.br rfl (fun h1 => ?_) (fun h1 => ?_)
        · rw [if_neg (fun q => h1 q.1)] at kk
          iterate 2 refine Rn.step rfl ?_
          exact Rn.sub (by exact ⟨rfl, rfl, rfl, rfl, rfl, trivial⟩) kk
        · repeat refine Rn.step rfl ?_
          refine Rn.br rfl (fun h2 => ?_) (fun h2 => ?_)
          · rw [if_neg (fun q => h2 q.2)] at kk
            iterate 2 refine Rn.step rfl ?_
            exact Rn.sub (by exact ⟨rfl, rfl, rfl, rfl, rfl, trivial⟩) kk
          · rw [if_pos ⟨Decidable.not_not.mp h1, Decidable.not_not.mp h2⟩] at kk
            repeat refine Rn.step rfl ?_
            refine Rn.br2 rfl (by show ¬ a 11 e < 0; rw [(hmn e he).1]; exact nI_pos (by have := (hmn e he).2; omega)) ?_
            repeat refine Rn.step rfl ?_
            refine Rn.br2 rfl (by show ¬ nI 24 ≤ a 11 e; rw [(hmn e he).1]; exact nle (hmn e he).2 (by decide)) ?_
            repeat refine Rn.step rfl ?_
            refine Rn.ald (mn e) rfl (hmn e he).1 (hmn e he).2 (by decide) ?_
            repeat refine Rn.step rfl ?_
            refine Rn.ald e rfl rfl (by omega) (by decide) ?_
            repeat refine Rn.step rfl ?_
            refine Rn.ast (mn e) rfl (hmn e he).1 (hmn e he).2 (by decide) (h3 := wX (va_up a 21 (upd g (mn e) (g (mn e) ||| sh1 (a 12 e)))) v t r) rfl ?_
            iterate 2 refine Rn.step rfl ?_
            exact Rn.sub (by exact ⟨rfl, rfl, rfl, rfl, rfl, trivial⟩) kk
      · repeat refine Rn.step rfl ?_
        refine Rn.br1 rfl (by show v 5 ≤ nI k; rw [hv]; exact Int32.le_refl _) ?_
        subst hg0
        subst hg1
        exact Rn.ret rfl
  · skip
    iterate 2 refine Rn.step rfl ?_
    refine Rn.lp (σ := Nat → Int32) (cfg := fun i g => (3, [(4, .int (nI i)), (0, .ref 9), (1, .int kd), (2, .int kp), (3, .ref 25)], [], wX (va_up a 25 g) v t r)) (f := fun m g => upd g m 0) (n := 24) (fun _ _ => True) (fun i g hi _ => ⟨trivial, fun k => ?_⟩) 24 0 (a 25) rfl trivial (fun g0 hg0 _ => ?_)
    · repeat refine Rn.step rfl ?_
      refine Rn.br2 rfl (nle hi (by decide)) ?_
      repeat refine Rn.step rfl ?_
      refine Rn.ast i rfl rfl hi (by decide) (h3 := wX (va_up a 25 (upd g i 0)) v t r) rfl ?_
      iterate 2 refine Rn.step rfl ?_
      rw [nI_succ] at k
      exact k
    · iterate 6 refine Rn.step rfl ?_
      refine Rn.lp (σ := Nat → Int32) (cfg := fun e g => (24, [(4, .int (nI e)), (0, .ref 9), (1, .int kd), (2, .int kp), (3, .ref 25)], [], wX (va_up a 25 g) v t r)) (f := fun e g => if a 10 e = kd ∧ bt kp e then upd g (mn e) (g (mn e) ||| sh1 (a 12 e)) else g) (n := k) (fun _ _ => True) (fun e g he _ => ⟨trivial, fun kk => ?_⟩) k 0 g0 (by omega) trivial (fun g1 hg1 _ => ?_)
      · rw [nI_succ] at kk
        repeat refine Rn.step rfl ?_
        refine Rn.br2 rfl (by show ¬ v 5 ≤ nI e; rw [hv]; exact nle he (by omega)) ?_
        repeat refine Rn.step rfl ?_
        refine Rn.br2 rfl (nle (n := 8) (by omega) (by decide)) ?_
        repeat refine Rn.step rfl ?_
        refine Rn.ald e rfl rfl (by omega) (by decide) ?_
        repeat refine Rn.step rfl ?_
        refine Rn.ald e rfl rfl (by omega) (by decide) ?_
        repeat refine Rn.step rfl ?_
        refine Rn.br rfl (fun h1 => ?_) (fun h1 => ?_)
        · rw [if_neg (fun q => h1 q.1)] at kk
          iterate 2 refine Rn.step rfl ?_
          exact Rn.sub (by exact ⟨rfl, rfl, rfl, rfl, rfl, trivial⟩) kk
        · repeat refine Rn.step rfl ?_
          refine Rn.br rfl (fun h2 => ?_) (fun h2 => ?_)
          · rw [if_neg (fun q => h2 q.2)] at kk
            iterate 2 refine Rn.step rfl ?_
            exact Rn.sub (by exact ⟨rfl, rfl, rfl, rfl, rfl, trivial⟩) kk
          · rw [if_pos ⟨Decidable.not_not.mp h1, Decidable.not_not.mp h2⟩] at kk
            repeat refine Rn.step rfl ?_
            refine Rn.br2 rfl (by show ¬ a 11 e < 0; rw [(hmn e he).1]; exact nI_pos (by have := (hmn e he).2; omega)) ?_
            repeat refine Rn.step rfl ?_
            refine Rn.br2 rfl (by show ¬ nI 24 ≤ a 11 e; rw [(hmn e he).1]; exact nle (hmn e he).2 (by decide)) ?_
            repeat refine Rn.step rfl ?_
            refine Rn.ald (mn e) rfl (hmn e he).1 (hmn e he).2 (by decide) ?_
            repeat refine Rn.step rfl ?_
            refine Rn.ald e rfl rfl (by omega) (by decide) ?_
            repeat refine Rn.step rfl ?_
            refine Rn.ast (mn e) rfl (hmn e he).1 (hmn e he).2 (by decide) (h3 := wX (va_up a 25 (upd g (mn e) (g (mn e) ||| sh1 (a 12 e)))) v t r) rfl ?_
            iterate 2 refine Rn.step rfl ?_
            exact Rn.sub (by exact ⟨rfl, rfl, rfl, rfl, rfl, trivial⟩) kk
      · repeat refine Rn.step rfl ?_
        refine Rn.br1 rfl (by show v 5 ≤ nI k; rw [hv]; exact Int32.le_refl _) ?_
        subst hg0
        subst hg1
        exact Rn.ret rfl
  · skip
    iterate 2 refine Rn.step rfl ?_
    refine Rn.lp (σ := Nat → Int32) (cfg := fun i g => (3, [(4, .int (nI i)), (0, .ref 9), (1, .int kd), (2, .int kp), (3, .ref 29)], [], wX (va_up a 29 g) v t r)) (f := fun m g => upd g m 0) (n := 24) (fun _ _ => True) (fun i g hi _ => ⟨trivial, fun k => ?_⟩) 24 0 (a 29) rfl trivial (fun g0 hg0 _ => ?_)
    · repeat refine Rn.step rfl ?_
      refine Rn.br2 rfl (nle hi (by decide)) ?_
      repeat refine Rn.step rfl ?_
      refine Rn.ast i rfl rfl hi (by decide) (h3 := wX (va_up a 29 (upd g i 0)) v t r) rfl ?_
      iterate 2 refine Rn.step rfl ?_
      rw [nI_succ] at k
      exact k
    · iterate 6 refine Rn.step rfl ?_
      refine Rn.lp (σ := Nat → Int32) (cfg := fun e g => (24, [(4, .int (nI e)), (0, .ref 9), (1, .int kd), (2, .int kp), (3, .ref 29)], [], wX (va_up a 29 g) v t r)) (f := fun e g => if a 10 e = kd ∧ bt kp e then upd g (mn e) (g (mn e) ||| sh1 (a 12 e)) else g) (n := k) (fun _ _ => True) (fun e g he _ => ⟨trivial, fun kk => ?_⟩) k 0 g0 (by omega) trivial (fun g1 hg1 _ => ?_)
      · rw [nI_succ] at kk
        repeat refine Rn.step rfl ?_
        refine Rn.br2 rfl (by show ¬ v 5 ≤ nI e; rw [hv]; exact nle he (by omega)) ?_
        repeat refine Rn.step rfl ?_
        refine Rn.br2 rfl (nle (n := 8) (by omega) (by decide)) ?_
        repeat refine Rn.step rfl ?_
        refine Rn.ald e rfl rfl (by omega) (by decide) ?_
        repeat refine Rn.step rfl ?_
        refine Rn.ald e rfl rfl (by omega) (by decide) ?_
        repeat refine Rn.step rfl ?_
        refine Rn.br rfl (fun h1 => ?_) (fun h1 => ?_)
        · rw [if_neg (fun q => h1 q.1)] at kk
          iterate 2 refine Rn.step rfl ?_
          exact Rn.sub (by exact ⟨rfl, rfl, rfl, rfl, rfl, trivial⟩) kk
        · repeat refine Rn.step rfl ?_
          refine Rn.br rfl (fun h2 => ?_) (fun h2 => ?_)
          · rw [if_neg (fun q => h2 q.2)] at kk
            iterate 2 refine Rn.step rfl ?_
            exact Rn.sub (by exact ⟨rfl, rfl, rfl, rfl, rfl, trivial⟩) kk
          · rw [if_pos ⟨Decidable.not_not.mp h1, Decidable.not_not.mp h2⟩] at kk
            repeat refine Rn.step rfl ?_
            refine Rn.br2 rfl (by show ¬ a 11 e < 0; rw [(hmn e he).1]; exact nI_pos (by have := (hmn e he).2; omega)) ?_
            repeat refine Rn.step rfl ?_
            refine Rn.br2 rfl (by show ¬ nI 24 ≤ a 11 e; rw [(hmn e he).1]; exact nle (hmn e he).2 (by decide)) ?_
            repeat refine Rn.step rfl ?_
            refine Rn.ald (mn e) rfl (hmn e he).1 (hmn e he).2 (by decide) ?_
            repeat refine Rn.step rfl ?_
            refine Rn.ald e rfl rfl (by omega) (by decide) ?_
            repeat refine Rn.step rfl ?_
            refine Rn.ast (mn e) rfl (hmn e he).1 (hmn e he).2 (by decide) (h3 := wX (va_up a 29 (upd g (mn e) (g (mn e) ||| sh1 (a 12 e)))) v t r) rfl ?_
            iterate 2 refine Rn.step rfl ?_
            exact Rn.sub (by exact ⟨rfl, rfl, rfl, rfl, rfl, trivial⟩) kk
      · repeat refine Rn.step rfl ?_
        refine Rn.br1 rfl (by show v 5 ≤ nI k; rw [hv]; exact Int32.le_refl _) ?_
        subst hg0
        subst hg1
        exact Rn.ret rfl
  · skip
    iterate 2 refine Rn.step rfl ?_
    refine Rn.lp (σ := Nat → Int32) (cfg := fun i g => (3, [(4, .int (nI i)), (0, .ref 9), (1, .int kd), (2, .int kp), (3, .ref 30)], [], wX (va_up a 30 g) v t r)) (f := fun m g => upd g m 0) (n := 24) (fun _ _ => True) (fun i g hi _ => ⟨trivial, fun k => ?_⟩) 24 0 (a 30) rfl trivial (fun g0 hg0 _ => ?_)
    · repeat refine Rn.step rfl ?_
      refine Rn.br2 rfl (nle hi (by decide)) ?_
      repeat refine Rn.step rfl ?_
      refine Rn.ast i rfl rfl hi (by decide) (h3 := wX (va_up a 30 (upd g i 0)) v t r) rfl ?_
      iterate 2 refine Rn.step rfl ?_
      rw [nI_succ] at k
      exact k
    · iterate 6 refine Rn.step rfl ?_
      refine Rn.lp (σ := Nat → Int32) (cfg := fun e g => (24, [(4, .int (nI e)), (0, .ref 9), (1, .int kd), (2, .int kp), (3, .ref 30)], [], wX (va_up a 30 g) v t r)) (f := fun e g => if a 10 e = kd ∧ bt kp e then upd g (mn e) (g (mn e) ||| sh1 (a 12 e)) else g) (n := k) (fun _ _ => True) (fun e g he _ => ⟨trivial, fun kk => ?_⟩) k 0 g0 (by omega) trivial (fun g1 hg1 _ => ?_)
      · rw [nI_succ] at kk
        repeat refine Rn.step rfl ?_
        refine Rn.br2 rfl (by show ¬ v 5 ≤ nI e; rw [hv]; exact nle he (by omega)) ?_
        repeat refine Rn.step rfl ?_
        refine Rn.br2 rfl (nle (n := 8) (by omega) (by decide)) ?_
        repeat refine Rn.step rfl ?_
        refine Rn.ald e rfl rfl (by omega) (by decide) ?_
        repeat refine Rn.step rfl ?_
        refine Rn.ald e rfl rfl (by omega) (by decide) ?_
        repeat refine Rn.step rfl ?_
        refine Rn.br rfl (fun h1 => ?_) (fun h1 => ?_)
        · rw [if_neg (fun q => h1 q.1)] at kk
          iterate 2 refine Rn.step rfl ?_
          exact Rn.sub (by exact ⟨rfl, rfl, rfl, rfl, rfl, trivial⟩) kk
        · repeat refine Rn.step rfl ?_
          refine Rn.br rfl (fun h2 => ?_) (fun h2 => ?_)
          · rw [if_neg (fun q => h2 q.2)] at kk
            iterate 2 refine Rn.step rfl ?_
            exact Rn.sub (by exact ⟨rfl, rfl, rfl, rfl, rfl, trivial⟩) kk
          · rw [if_pos ⟨Decidable.not_not.mp h1, Decidable.not_not.mp h2⟩] at kk
            repeat refine Rn.step rfl ?_
            refine Rn.br2 rfl (by show ¬ a 11 e < 0; rw [(hmn e he).1]; exact nI_pos (by have := (hmn e he).2; omega)) ?_
            repeat refine Rn.step rfl ?_
            refine Rn.br2 rfl (by show ¬ nI 24 ≤ a 11 e; rw [(hmn e he).1]; exact nle (hmn e he).2 (by decide)) ?_
            repeat refine Rn.step rfl ?_
            refine Rn.ald (mn e) rfl (hmn e he).1 (hmn e he).2 (by decide) ?_
            repeat refine Rn.step rfl ?_
            refine Rn.ald e rfl rfl (by omega) (by decide) ?_
            repeat refine Rn.step rfl ?_
            refine Rn.ast (mn e) rfl (hmn e he).1 (hmn e he).2 (by decide) (h3 := wX (va_up a 30 (upd g (mn e) (g (mn e) ||| sh1 (a 12 e)))) v t r) rfl ?_
            iterate 2 refine Rn.step rfl ?_
            exact Rn.sub (by exact ⟨rfl, rfl, rfl, rfl, rfl, trivial⟩) kk
      · repeat refine Rn.step rfl ?_
        refine Rn.br1 rfl (by show v 5 ≤ nI k; rw [hv]; exact Int32.le_refl _) ?_
        subst hg0
        subst hg1
        exact Rn.ret rfl
  · skip
    iterate 2 refine Rn.step rfl ?_
    refine Rn.lp (σ := Nat → Int32) (cfg := fun i g => (3, [(4, .int (nI i)), (0, .ref 9), (1, .int kd), (2, .int kp), (3, .ref 34)], [], wX (va_up a 34 g) v t r)) (f := fun m g => upd g m 0) (n := 24) (fun _ _ => True) (fun i g hi _ => ⟨trivial, fun k => ?_⟩) 24 0 (a 34) rfl trivial (fun g0 hg0 _ => ?_)
    · repeat refine Rn.step rfl ?_
      refine Rn.br2 rfl (nle hi (by decide)) ?_
      repeat refine Rn.step rfl ?_
      refine Rn.ast i rfl rfl hi (by decide) (h3 := wX (va_up a 34 (upd g i 0)) v t r) rfl ?_
      iterate 2 refine Rn.step rfl ?_
      rw [nI_succ] at k
      exact k
    · iterate 6 refine Rn.step rfl ?_
      refine Rn.lp (σ := Nat → Int32) (cfg := fun e g => (24, [(4, .int (nI e)), (0, .ref 9), (1, .int kd), (2, .int kp), (3, .ref 34)], [], wX (va_up a 34 g) v t r)) (f := fun e g => if a 10 e = kd ∧ bt kp e then upd g (mn e) (g (mn e) ||| sh1 (a 12 e)) else g) (n := k) (fun _ _ => True) (fun e g he _ => ⟨trivial, fun kk => ?_⟩) k 0 g0 (by omega) trivial (fun g1 hg1 _ => ?_)
      · rw [nI_succ] at kk
        repeat refine Rn.step rfl ?_
        refine Rn.br2 rfl (by show ¬ v 5 ≤ nI e; rw [hv]; exact nle he (by omega)) ?_
        repeat refine Rn.step rfl ?_
        refine Rn.br2 rfl (nle (n := 8) (by omega) (by decide)) ?_
        repeat refine Rn.step rfl ?_
        refine Rn.ald e rfl rfl (by omega) (by decide) ?_
        repeat refine Rn.step rfl ?_
        refine Rn.ald e rfl rfl (by omega) (by decide) ?_
        repeat refine Rn.step rfl ?_
        refine Rn.br rfl (fun h1 => ?_) (fun h1 => ?_)
        · rw [if_neg (fun q => h1 q.1)] at kk
          iterate 2 refine Rn.step rfl ?_
          exact Rn.sub (by exact ⟨rfl, rfl, rfl, rfl, rfl, trivial⟩) kk
        · repeat refine Rn.step rfl ?_
          refine Rn.br rfl (fun h2 => ?_) (fun h2 => ?_)
          · rw [if_neg (fun q => h2 q.2)] at kk
            iterate 2 refine Rn.step rfl ?_
            exact Rn.sub (by exact ⟨rfl, rfl, rfl, rfl, rfl, trivial⟩) kk
          · rw [if_pos ⟨Decidable.not_not.mp h1, Decidable.not_not.mp h2⟩] at kk
            repeat refine Rn.step rfl ?_
            refine Rn.br2 rfl (by show ¬ a 11 e < 0; rw [(hmn e he).1]; exact nI_pos (by have := (hmn e he).2; omega)) ?_
            repeat refine Rn.step rfl ?_
            refine Rn.br2 rfl (by show ¬ nI 24 ≤ a 11 e; rw [(hmn e he).1]; exact nle (hmn e he).2 (by decide)) ?_
            repeat refine Rn.step rfl ?_
            refine Rn.ald (mn e) rfl (hmn e he).1 (hmn e he).2 (by decide) ?_
            repeat refine Rn.step rfl ?_
            refine Rn.ald e rfl rfl (by omega) (by decide) ?_
            repeat refine Rn.step rfl ?_
            refine Rn.ast (mn e) rfl (hmn e he).1 (hmn e he).2 (by decide) (h3 := wX (va_up a 34 (upd g (mn e) (g (mn e) ||| sh1 (a 12 e)))) v t r) rfl ?_
            iterate 2 refine Rn.step rfl ?_
            exact Rn.sub (by exact ⟨rfl, rfl, rfl, rfl, rfl, trivial⟩) kk
      · repeat refine Rn.step rfl ?_
        refine Rn.br1 rfl (by show v 5 ≤ nI k; rw [hv]; exact Int32.le_refl _) ?_
        subst hg0
        subst hg1
        exact Rn.ret rfl
theorem r_bits : Rn E 0 mX1_bits (0, [(0, .ref 9)], [], wX a v t r) (some (.int (sh1 (v 5) - 1)), wX a v t r) := by
  repeat refine Rn.step rfl ?_
  exact Rn.ret rfl
theorem r_logBits : Rn E 0 mX5_logBits (0, [(0, .ref 3)], [], wX a v t r) (some (.int (sh1 (v 4) - 1)), wX a v t r) := by
  repeat refine Rn.step rfl ?_
  exact Rn.ret rfl
abbrev inB (x : Int32) (b : Int32) : Prop := 0 ≤ x ∧ x < b
theorem r_mayBe (x y z : Int32) (h : List va_E) : Rn E 1 mX1_mayBe (0, [(0, .int x), (1, .int y), (2, .int z)], [], h) (some (.int (ib (inB x 3 ∧ inB y 24 ∧ inB z 16))), h) := by
  repeat refine Rn.step rfl ?_
  refine Rn.calli rfl rfl rfl (by decide) (r_within x 3 h) (fun x1 e1 => ?_)
  refine Rn.br rfl (fun h1 => ?_) (fun h1 => ?_)
  · refine Rn.step rfl ?_
    rw [ib_f (fun q => ib_eq0.mp (e1 ▸ h1) q.1)]
    exact Rn.ret rfl
  repeat refine Rn.step rfl ?_
  refine Rn.calli rfl rfl rfl (by decide) (r_within y 24 h) (fun x2 e2 => ?_)
  refine Rn.br rfl (fun h2 => ?_) (fun h2 => ?_)
  · refine Rn.step rfl ?_
    rw [ib_f (fun q => ib_eq0.mp (e2 ▸ h2) q.2.1)]
    exact Rn.ret rfl
  repeat refine Rn.step rfl ?_
  refine Rn.calli rfl rfl rfl (by decide) (r_within z 16 h) (fun x3 e3 => ?_)
  refine Rn.br rfl (fun h3 => ?_) (fun h3 => ?_)
  · refine Rn.step rfl ?_
    rw [ib_f (fun q => ib_eq0.mp (e3 ▸ h3) q.2.2)]
    exact Rn.ret rfl
  iterate 2 refine Rn.step rfl ?_
  rw [ib_t ⟨ib_ne0.mp (e1 ▸ h1), ib_ne0.mp (e2 ▸ h2), ib_ne0.mp (e3 ▸ h3)⟩]
  exact Rn.ret rfl
theorem inB_nI {k n : Nat} (h : k < n) (hn : n < 2 ^ 31) : inB (nI k) (nI n) := ⟨nI_pos' (by omega), nI_lt h hn⟩
theorem inB_ex {x : Int32} {n : Nat} (hn : n < 2 ^ 31) (h : inB x (nI n)) : ∃ k, k < n ∧ x = nI k := by
  obtain ⟨j, hj, rfl⟩ := nI_of (Int32.not_lt.mpr h.1)
  exact ⟨j, (nI_ltI hj hn).mp h.2, rfl⟩
theorem r_evFull (x y z : Int32) (hv : v 5 = nI 8) : Rn E 1 mX1_append (0, [(0, .ref 9), (1, .int x), (2, .int y), (3, .int z)], [], wX a v t r) (some (.int 0), wX a v t r) := by
  repeat refine Rn.step rfl ?_
  refine Rn.calli rfl rfl rfl (by decide) (r_within (v 5) 8 _) (fun x1 e1 => ?_)
  refine Rn.br2 rfl (by
    rw [e1, ib_ne0, hv]
    decide) ?_
  refine Rn.step rfl ?_
  exact Rn.ret rfl
theorem r_evAppend (x y z : Int32) {k : Nat} (hk : k < 8) (hv : v 5 = nI k) : Rn E 1 mX1_append (0, [(0, .ref 9), (1, .int x), (2, .int y), (3, .int z)], [], wX a v t r) (some (.int 1), wX (va_up (va_up (va_up a 10 (upd (a 10) k x)) 11 (upd (a 11) k y)) 12 (upd (a 12) k z)) (upd v 5 (nI (k + 1))) t r) := by
  repeat refine Rn.step rfl ?_
  refine Rn.calli rfl rfl rfl (by decide) (r_within (v 5) 8 _) (fun x1 e1 => ?_)
  refine Rn.br1 rfl (by
    rw [e1, ib_ne0, hv]
    exact inB_nI hk (by decide)) ?_
  repeat refine Rn.step rfl ?_
  refine Rn.ast k rfl hv hk (by decide) (h3 := wX (va_up a 10 (upd (a 10) k x)) v t r) rfl ?_
  repeat refine Rn.step rfl ?_
  refine Rn.ast k rfl hv hk (by decide) (h3 := wX (va_up (va_up a 10 (upd (a 10) k x)) 11 (upd (a 11) k y)) v t r) rfl ?_
  repeat refine Rn.step rfl ?_
  refine Rn.ast k rfl hv hk (by decide) (h3 := wX (va_up (va_up (va_up a 10 (upd (a 10) k x)) 11 (upd (a 11) k y)) 12 (upd (a 12) k z)) v t r) rfl ?_
  iterate 5 refine Rn.step rfl ?_
  refine Rn.top (x' := nI (k + 1)) (by show v 5 + 1 = _; rw [hv, nI_1]) ?_
  iterate 2 refine Rn.step rfl ?_
  exact Rn.ret rfl
end X1
end
section
section X2
variable {E : iExtT} {a : Nat → Nat → Int32} {v : Nat → Int32} {t : Nat → Nat → Int64} {r : List va_E}
/-- texts: T the object's cell, its bytes one behind, V the place of its size, c how many it takes -/
abbrev isT (T V c : Nat) : Prop := (T = 39 ∧ V = 11 ∧ c = 16) ∨ (T = 41 ∧ V = 12 ∧ c = 16) ∨ (T = 43 ∧ V = 13 ∧ c = 31)
theorem r_txFull {T V c : Nat} (hT : isT T V c) (x : Int32) (hv : v V = nI c) : Rn E 0 mX4_append (0, [(0, .ref T), (1, .int x)], [], wX a v t r) (some (.int 0), wX a v t r) := by
  rcases hT with ⟨rfl, rfl, rfl⟩ | ⟨rfl, rfl, rfl⟩ | ⟨rfl, rfl, rfl⟩
  all_goals
    repeat refine Rn.step rfl ?_
    refine Rn.br2 rfl (by rw [hv]; decide) ?_
    repeat refine Rn.step rfl ?_
    refine Rn.br2 rfl (by rw [hv]; decide) ?_
    refine Rn.step rfl ?_
    exact Rn.ret rfl
theorem r_txAppend {T V c : Nat} (hT : isT T V c) (x : Int32) {n : Nat} (hn : n < c) (hv : v V = nI n) : Rn E 0 mX4_append (0, [(0, .ref T), (1, .int x)], [], wX a v t r) (some (.int 1), wX (va_up a (T + 1) (upd (a (T + 1)) n x)) (upd v V (nI (n + 1))) t r) := by
  rcases hT with ⟨rfl, rfl, rfl⟩ | ⟨rfl, rfl, rfl⟩ | ⟨rfl, rfl, rfl⟩
  · repeat refine Rn.step rfl ?_
    refine Rn.br2 rfl (by rw [hv]; exact nI_pos (by omega)) ?_
    repeat refine Rn.step rfl ?_
    refine Rn.br1 rfl (by rw [hv]; exact nI_lt hn (by decide)) ?_
    repeat refine Rn.step rfl ?_
    refine Rn.ast n rfl hv hn (by decide) (h3 := wX (va_up a 40 (upd (a 40) n x)) v t r) rfl ?_
    iterate 5 refine Rn.step rfl ?_
    refine Rn.top (x' := nI (n + 1)) (by show v 11 + 1 = _; rw [hv, nI_1]) ?_
    iterate 2 refine Rn.step rfl ?_
    exact Rn.ret rfl
  · repeat refine Rn.step rfl ?_
    refine Rn.br2 rfl (by rw [hv]; exact nI_pos (by omega)) ?_
    repeat refine Rn.step rfl ?_
    refine Rn.br1 rfl (by rw [hv]; exact nI_lt hn (by decide)) ?_
    repeat refine Rn.step rfl ?_
    refine Rn.ast n rfl hv hn (by decide) (h3 := wX (va_up a 42 (upd (a 42) n x)) v t r) rfl ?_
    iterate 5 refine Rn.step rfl ?_
    refine Rn.top (x' := nI (n + 1)) (by show v 12 + 1 = _; rw [hv, nI_1]) ?_
    iterate 2 refine Rn.step rfl ?_
    exact Rn.ret rfl
  · repeat refine Rn.step rfl ?_
    refine Rn.br2 rfl (by rw [hv]; exact nI_pos (by omega)) ?_
    repeat refine Rn.step rfl ?_
    refine Rn.br1 rfl (by rw [hv]; exact nI_lt hn (by decide)) ?_
    repeat refine Rn.step rfl ?_
    refine Rn.ast n rfl hv hn (by decide) (h3 := wX (va_up a 44 (upd (a 44) n x)) v t r) rfl ?_
    iterate 5 refine Rn.step rfl ?_
    refine Rn.top (x' := nI (n + 1)) (by show v 13 + 1 = _; rw [hv, nI_1]) ?_
    iterate 2 refine Rn.step rfl ?_
    exact Rn.ret rfl
theorem nI_ne1 {i : Nat} (h : i < 2 ^ 31) : ¬ nI i = -1 := by
  intro q
  exact nI_pos h (by rw [q]; decide)
/-- the first byte that is no figure from lo to hi; -1 -/
def ffg (b : Nat → Int32) (lo hi : Int32) : Nat → Nat → Int32
  | _, 0 => -1
  | i, j + 1 => if b i < lo ∨ hi < b i then nI i else ffg b lo hi (i + 1) j
def rwF (b : Nat → Int32) (n : Nat) (fl rest : Int32) (s : Nat) : Int32 := if fl = -1 ∧ s < n then b s - 48 else rest
def rwA (b : Nat → Int32) (n : Nat) (fl rest : Int32) (f0 : Nat → Int32) : Nat → Int32 := lp (fun s g => upd g s (rwF b n fl rest s)) 0 16 f0
theorem r_figS (lo up rest : Int32) {n : Nat} (hn : n ≤ 16) (hv : v 11 = nI n) : Rn E 0 mX5_tellFigures (0, [(0, .ref 3), (1, .ref 39), (2, .int lo), (3, .int up), (4, .ref 4), (5, .int rest)], [], wX a v t r) (some (.int (ffg (a 40) lo up 0 n)), wX (va_up a 4 (rwA (a 40) n (ffg (a 40) lo up 0 n) rest (a 4))) v t r) := by
  obtain ⟨F, hF⟩ : ∃ F, F = ffg (a 40) lo up 0 n := ⟨_, rfl⟩
  rw [← hF]
  have k2 : Rn E 0 mX5_tellFigures (63, [(6, .int F), (0, .ref 3), (1, .ref 39), (2, .int lo), (3, .int up), (4, .ref 4), (5, .int rest)], [], wX a v t r) (some (.int F), wX (va_up a 4 (rwA (a 40) n F rest (a 4))) v t r) := by
    iterate 2 refine Rn.step rfl ?_
    refine Rn.lp (σ := Nat → Int32) (cfg := fun i g => (66, [(7, .int (nI i)), (6, .int F), (0, .ref 3), (1, .ref 39), (2, .int lo), (3, .int up), (4, .ref 4), (5, .int rest)], [], wX (va_up a 4 g) v t r)) (f := fun s g => upd g s (rwF (a 40) n F rest s)) (n := 16) (fun _ _ => True) (fun i g hl _ => ⟨trivial, fun k => ?_⟩) 16 0 (a 4) rfl trivial (fun g0 hg0 _ => ?_)
    · rw [nI_succ] at k
      repeat refine Rn.step rfl ?_
      refine Rn.br2 rfl (nle hl (by decide)) ?_
      repeat refine Rn.step rfl ?_
      have fin : ∀ b : Int32, (b = ib (F = -1 ∧ i < n)) → Rn E 0 mX5_tellFigures (104, [(7, .int (nI i)), (6, .int F), (0, .ref 3), (1, .ref 39), (2, .int lo), (3, .int up), (4, .ref 4), (5, .int rest)], [.int b], wX (va_up a 4 g) v t r) (some (.int F), wX (va_up a 4 (rwA (a 40) n F rest (a 4))) v t r) := by
        intro b eb
        repeat refine Rn.step rfl ?_
        refine Rn.br rfl (fun h1 => ?_) (fun h1 => ?_)
        · have hc := ib_eq0.mp (eb ▸ h1)
          rw [show rwF (a 40) n F rest i = rest from if_neg hc] at k
          repeat refine Rn.step rfl ?_
          refine Rn.ast i rfl rfl hl (by decide) (h3 := wX (va_up a 4 (upd g i rest)) v t r) rfl ?_
          iterate 2 refine Rn.step rfl ?_
          exact Rn.sub (by exact ⟨rfl, rfl, rfl, rfl, rfl, rfl, rfl, rfl, trivial⟩) k
        · have hc := ib_ne0.mp (eb ▸ h1)
          rw [show rwF (a 40) n F rest i = a 40 i - 48 from if_pos hc] at k
          repeat refine Rn.step rfl ?_
          refine Rn.ald i rfl rfl hl (by decide) ?_
          repeat refine Rn.step rfl ?_
          refine Rn.ast i rfl rfl hl (by decide) (h3 := wX (va_up a 4 (upd g i (a 40 i - 48))) v t r) rfl ?_
          iterate 2 refine Rn.step rfl ?_
          exact Rn.sub (by exact ⟨rfl, rfl, rfl, rfl, rfl, rfl, rfl, rfl, trivial⟩) k
      refine Rn.br rfl (fun h1 => ?_) (fun h1 => ?_)
      · refine Rn.step rfl ?_
        exact fin 0 (by rw [ib_f (fun q => h1 q.1)])
      · repeat refine Rn.step rfl ?_
        refine Rn.br rfl (fun h2 => ?_) (fun h2 => ?_)
        · refine Rn.step rfl ?_
          refine fin 0 ?_
          rw [ib_f]
          intro q
          rw [hv] at h2
          exact nle q.2 (by omega) h2
        · repeat refine Rn.step rfl ?_
          refine Rn.br2 rfl (nle hl (by decide)) ?_
          iterate 2 refine Rn.step rfl ?_
          refine fin 1 ?_
          rw [ib_t]
          refine ⟨Decidable.not_not.mp h1, ?_⟩
          rw [hv] at h2
          rcases Nat.lt_or_ge i n with q | q
          · exact q
          · exact absurd (nI_le q (by omega)) h2
    · repeat refine Rn.step rfl ?_
      subst hg0
      exact Rn.ret rfl
  have key : ∀ j i, i + j = n → ffg (a 40) lo up i j = F → Rn E 0 mX5_tellFigures (6, [(7, .int (nI i)), (6, .int (-1)), (0, .ref 3), (1, .ref 39), (2, .int lo), (3, .int up), (4, .ref 4), (5, .int rest)], [], wX a v t r) (some (.int F), wX (va_up a 4 (rwA (a 40) n F rest (a 4))) v t r) := by
    intro j
    induction j with
    | zero =>
      intro i hi hf
      repeat refine Rn.step rfl ?_
      refine Rn.br1 rfl (by rw [hv]; exact nI_le (by omega) (by omega)) ?_
      have e1 : F = -1 := hf.symm
      rw [← e1]
      exact Rn.sub (by exact ⟨rfl, rfl, rfl, rfl, rfl, rfl, rfl, trivial⟩) k2
    | succ j ih =>
      intro i hi hf
      repeat refine Rn.step rfl ?_
      refine Rn.br2 rfl (by rw [hv]; exact nle (by omega) (by omega)) ?_
      repeat refine Rn.step rfl ?_
      refine Rn.br2 rfl (nle (n := 16) (by omega) (by decide)) ?_
      repeat refine Rn.step rfl ?_
      refine Rn.ald i rfl rfl (by omega) (by decide) ?_
      repeat refine Rn.step rfl ?_
      unfold ffg at hf
      have bad : (a 40 i < lo ∨ up < a 40 i) → Rn E 0 mX5_tellFigures (53, [(7, .int (nI i)), (6, .int (-1)), (0, .ref 3), (1, .ref 39), (2, .int lo), (3, .int up), (4, .ref 4), (5, .int rest)], [], wX a v t r) (some (.int F), wX (va_up a 4 (rwA (a 40) n F rest (a 4))) v t r) := by
        intro hbad
        rw [if_pos hbad] at hf
        rw [← hf] at k2 ⊢
        repeat refine Rn.step rfl ?_
        refine Rn.br rfl (fun _ => ?_) (fun _ => ?_)
        · exact Rn.sub (by exact ⟨rfl, rfl, rfl, rfl, rfl, rfl, rfl, trivial⟩) k2
        · repeat refine Rn.step rfl ?_
          refine Rn.br rfl (fun _ => ?_) (fun _ => ?_)
          · exact Rn.sub (by exact ⟨rfl, rfl, rfl, rfl, rfl, rfl, rfl, trivial⟩) k2
          · repeat refine Rn.step rfl ?_
            refine Rn.br1 rfl (nI_ne1 (by omega)) ?_
            exact Rn.sub (by exact ⟨rfl, rfl, rfl, rfl, rfl, rfl, rfl, trivial⟩) k2
      refine Rn.br rfl (fun h1 => ?_) (fun h1 => ?_)
      · exact bad (Or.inl h1)
      · repeat refine Rn.step rfl ?_
        refine Rn.ald i rfl rfl (by omega) (by decide) ?_
        repeat refine Rn.step rfl ?_
        refine Rn.br rfl (fun h2 => ?_) (fun h2 => ?_)
        · iterate 2 refine Rn.step rfl ?_
          rw [if_neg (fun q => q.elim h1 (fun q => absurd h2 (Int32.not_le.mpr q)))] at hf
          have k3 := ih (i + 1) (by omega) hf
          rw [nI_succ] at k3
          exact k3
        · exact bad (Or.inr (Int32.not_le.mp h2))
  iterate 4 refine Rn.step rfl ?_
  exact key n 0 (by omega) hF.symm
theorem r_figF (lo up rest : Int32) {n : Nat} (hn : n ≤ 16) (hv : v 12 = nI n) : Rn E 0 mX5_tellFigures (0, [(0, .ref 3), (1, .ref 41), (2, .int lo), (3, .int up), (4, .ref 5), (5, .int rest)], [], wX a v t r) (some (.int (ffg (a 42) lo up 0 n)), wX (va_up a 5 (rwA (a 42) n (ffg (a 42) lo up 0 n) rest (a 5))) v t r) := by
  obtain ⟨F, hF⟩ : ∃ F, F = ffg (a 42) lo up 0 n := ⟨_, rfl⟩
  rw [← hF]
  have k2 : Rn E 0 mX5_tellFigures (63, [(6, .int F), (0, .ref 3), (1, .ref 41), (2, .int lo), (3, .int up), (4, .ref 5), (5, .int rest)], [], wX a v t r) (some (.int F), wX (va_up a 5 (rwA (a 42) n F rest (a 5))) v t r) := by
    iterate 2 refine Rn.step rfl ?_
    refine Rn.lp (σ := Nat → Int32) (cfg := fun i g => (66, [(7, .int (nI i)), (6, .int F), (0, .ref 3), (1, .ref 41), (2, .int lo), (3, .int up), (4, .ref 5), (5, .int rest)], [], wX (va_up a 5 g) v t r)) (f := fun s g => upd g s (rwF (a 42) n F rest s)) (n := 16) (fun _ _ => True) (fun i g hl _ => ⟨trivial, fun k => ?_⟩) 16 0 (a 5) rfl trivial (fun g0 hg0 _ => ?_)
    · rw [nI_succ] at k
      repeat refine Rn.step rfl ?_
      refine Rn.br2 rfl (nle hl (by decide)) ?_
      repeat refine Rn.step rfl ?_
      have fin : ∀ b : Int32, (b = ib (F = -1 ∧ i < n)) → Rn E 0 mX5_tellFigures (104, [(7, .int (nI i)), (6, .int F), (0, .ref 3), (1, .ref 41), (2, .int lo), (3, .int up), (4, .ref 5), (5, .int rest)], [.int b], wX (va_up a 5 g) v t r) (some (.int F), wX (va_up a 5 (rwA (a 42) n F rest (a 5))) v t r) := by
        intro b eb
        repeat refine Rn.step rfl ?_
        refine Rn.br rfl (fun h1 => ?_) (fun h1 => ?_)
        · have hc := ib_eq0.mp (eb ▸ h1)
          rw [show rwF (a 42) n F rest i = rest from if_neg hc] at k
          repeat refine Rn.step rfl ?_
          refine Rn.ast i rfl rfl hl (by decide) (h3 := wX (va_up a 5 (upd g i rest)) v t r) rfl ?_
          iterate 2 refine Rn.step rfl ?_
          exact Rn.sub (by exact ⟨rfl, rfl, rfl, rfl, rfl, rfl, rfl, rfl, trivial⟩) k
        · have hc := ib_ne0.mp (eb ▸ h1)
          rw [show rwF (a 42) n F rest i = a 42 i - 48 from if_pos hc] at k
          repeat refine Rn.step rfl ?_
          refine Rn.ald i rfl rfl hl (by decide) ?_
          repeat refine Rn.step rfl ?_
          refine Rn.ast i rfl rfl hl (by decide) (h3 := wX (va_up a 5 (upd g i (a 42 i - 48))) v t r) rfl ?_
          iterate 2 refine Rn.step rfl ?_
          exact Rn.sub (by exact ⟨rfl, rfl, rfl, rfl, rfl, rfl, rfl, rfl, trivial⟩) k
      refine Rn.br rfl (fun h1 => ?_) (fun h1 => ?_)
      · refine Rn.step rfl ?_
        exact fin 0 (by rw [ib_f (fun q => h1 q.1)])
      · repeat refine Rn.step rfl ?_
        refine Rn.br rfl (fun h2 => ?_) (fun h2 => ?_)
        · refine Rn.step rfl ?_
          refine fin 0 ?_
          rw [ib_f]
          intro q
          rw [hv] at h2
          exact nle q.2 (by omega) h2
        · repeat refine Rn.step rfl ?_
          refine Rn.br2 rfl (nle hl (by decide)) ?_
          iterate 2 refine Rn.step rfl ?_
          refine fin 1 ?_
          rw [ib_t]
          refine ⟨Decidable.not_not.mp h1, ?_⟩
          rw [hv] at h2
          rcases Nat.lt_or_ge i n with q | q
          · exact q
          · exact absurd (nI_le q (by omega)) h2
    · repeat refine Rn.step rfl ?_
      subst hg0
      exact Rn.ret rfl
  have key : ∀ j i, i + j = n → ffg (a 42) lo up i j = F → Rn E 0 mX5_tellFigures (6, [(7, .int (nI i)), (6, .int (-1)), (0, .ref 3), (1, .ref 41), (2, .int lo), (3, .int up), (4, .ref 5), (5, .int rest)], [], wX a v t r) (some (.int F), wX (va_up a 5 (rwA (a 42) n F rest (a 5))) v t r) := by
    intro j
    induction j with
    | zero =>
      intro i hi hf
      repeat refine Rn.step rfl ?_
      refine Rn.br1 rfl (by rw [hv]; exact nI_le (by omega) (by omega)) ?_
      have e1 : F = -1 := hf.symm
      rw [← e1]
      exact Rn.sub (by exact ⟨rfl, rfl, rfl, rfl, rfl, rfl, rfl, trivial⟩) k2
    | succ j ih =>
      intro i hi hf
      repeat refine Rn.step rfl ?_
      refine Rn.br2 rfl (by rw [hv]; exact nle (by omega) (by omega)) ?_
      repeat refine Rn.step rfl ?_
      refine Rn.br2 rfl (nle (n := 16) (by omega) (by decide)) ?_
      repeat refine Rn.step rfl ?_
      refine Rn.ald i rfl rfl (by omega) (by decide) ?_
      repeat refine Rn.step rfl ?_
      unfold ffg at hf
      have bad : (a 42 i < lo ∨ up < a 42 i) → Rn E 0 mX5_tellFigures (53, [(7, .int (nI i)), (6, .int (-1)), (0, .ref 3), (1, .ref 41), (2, .int lo), (3, .int up), (4, .ref 5), (5, .int rest)], [], wX a v t r) (some (.int F), wX (va_up a 5 (rwA (a 42) n F rest (a 5))) v t r) := by
        intro hbad
        rw [if_pos hbad] at hf
        rw [← hf] at k2 ⊢
        repeat refine Rn.step rfl ?_
        refine Rn.br rfl (fun _ => ?_) (fun _ => ?_)
        · exact Rn.sub (by exact ⟨rfl, rfl, rfl, rfl, rfl, rfl, rfl, trivial⟩) k2
        · repeat refine Rn.step rfl ?_
          refine Rn.br rfl (fun _ => ?_) (fun _ => ?_)
          · exact Rn.sub (by exact ⟨rfl, rfl, rfl, rfl, rfl, rfl, rfl, trivial⟩) k2
          · repeat refine Rn.step rfl ?_
            refine Rn.br1 rfl (nI_ne1 (by omega)) ?_
            exact Rn.sub (by exact ⟨rfl, rfl, rfl, rfl, rfl, rfl, rfl, trivial⟩) k2
      refine Rn.br rfl (fun h1 => ?_) (fun h1 => ?_)
      · exact bad (Or.inl h1)
      · repeat refine Rn.step rfl ?_
        refine Rn.ald i rfl rfl (by omega) (by decide) ?_
        repeat refine Rn.step rfl ?_
        refine Rn.br rfl (fun h2 => ?_) (fun h2 => ?_)
        · iterate 2 refine Rn.step rfl ?_
          rw [if_neg (fun q => q.elim h1 (fun q => absurd h2 (Int32.not_le.mpr q)))] at hf
          have k3 := ih (i + 1) (by omega) hf
          rw [nI_succ] at k3
          exact k3
        · exact bad (Or.inr (Int32.not_le.mp h2))
  iterate 4 refine Rn.step rfl ?_
  exact key n 0 (by omega) hF.symm
end X2
end
section
section X3
variable {E : iExtT} {a : Nat → Nat → Int32} {v : Nat → Int32} {t : Nat → Nat → Int64} {r : List va_E}
def msB (k : Nat) (b : Int32) : Bool := match k with
  | 0 => decide (97 ≤ b) && decide (b ≤ 120)
  | 1 => decide (49 ≤ b) && decide (b ≤ 57)
  | 2 => decide (b = 115) || decide (b = 108)
  | _ => decide (b = 59)
theorem r_mayStand {k : Nat} (hk : k < 4) (b : Int32) (h : List va_E) : Rn E 0 mX5_mayStand (0, [(0, .int (nI k)), (1, .int b)], [], h) (some (.int (ib (msB k b = true))), h) := by
  match k, hk with
  | 0, _ =>
    repeat refine Rn.step rfl ?_
    refine Rn.br rfl (fun h1 => ?_) (fun h1 => ?_)
    · rw [ib_f (by simp [msB, Int32.not_le.mpr h1])]
      repeat refine Rn.step rfl ?_
      exact Rn.ret rfl
    · repeat refine Rn.step rfl ?_
      refine Rn.br rfl (fun h2 => ?_) (fun h2 => ?_)
      · rw [ib_f (by simp [msB, Int32.not_le.mpr h2])]
        repeat refine Rn.step rfl ?_
        exact Rn.ret rfl
      · rw [ib_t (by simp [msB, Int32.not_lt.mp h1, Int32.not_lt.mp h2])]
        repeat refine Rn.step rfl ?_
        exact Rn.ret rfl
  | 1, _ =>
    repeat refine Rn.step rfl ?_
    refine Rn.br rfl (fun h1 => ?_) (fun h1 => ?_)
    · rw [ib_f (by simp [msB, Int32.not_le.mpr h1])]
      repeat refine Rn.step rfl ?_
      exact Rn.ret rfl
    · repeat refine Rn.step rfl ?_
      refine Rn.br rfl (fun h2 => ?_) (fun h2 => ?_)
      · rw [ib_f (by simp [msB, Int32.not_le.mpr h2])]
        repeat refine Rn.step rfl ?_
        exact Rn.ret rfl
      · rw [ib_t (by simp [msB, Int32.not_lt.mp h1, Int32.not_lt.mp h2])]
        repeat refine Rn.step rfl ?_
        exact Rn.ret rfl
  | 2, _ =>
    repeat refine Rn.step rfl ?_
    refine Rn.br rfl (fun h1 => ?_) (fun h1 => ?_)
    · rw [ib_t (by simp [msB, h1])]
      repeat refine Rn.step rfl ?_
      exact Rn.ret rfl
    · repeat refine Rn.step rfl ?_
      refine Rn.br rfl (fun h2 => ?_) (fun h2 => ?_)
      · rw [ib_f (by simp [msB, h1, h2])]
        repeat refine Rn.step rfl ?_
        exact Rn.ret rfl
      · rw [ib_t (by simp [msB, Decidable.not_not.mp h2])]
        repeat refine Rn.step rfl ?_
        exact Rn.ret rfl
  | 3, _ =>
    repeat refine Rn.step rfl ?_
    refine Rn.br rfl (fun h1 => ?_) (fun h1 => ?_)
    · rw [ib_f (by simp [msB, h1])]
      repeat refine Rn.step rfl ?_
      exact Rn.ret rfl
    · rw [ib_t (by simp [msB, Decidable.not_not.mp h1])]
      repeat refine Rn.step rfl ?_
      exact Rn.ret rfl
/-- the fault of a text of logs -/
def flg (b : Nat → Int32) (n : Nat) : Nat → Nat → Int32
  | _, 0 => if n = 0 ∨ n % 4 = 3 then -1 else nI n
  | i, j + 1 => if msB (i % 4) (b i) = true then flg b n (i + 1) j else nI i
theorem r_faultOfLogs {n : Nat} (hn : n ≤ 31) (hv : v 13 = nI n) : Rn E 1 mX5_faultOfLogs (0, [(0, .ref 43)], [], wX a v t r) (some (.int (flg (a 44) n 0 n)), wX a v t r) := by
  have key : ∀ j i, i + j = n → Rn E 1 mX5_faultOfLogs (2, [(1, .int (nI i)), (0, .ref 43)], [], wX a v t r) (some (.int (flg (a 44) n i j)), wX a v t r) := by
    intro j
    induction j with
    | zero =>
      intro i hi
      repeat refine Rn.step rfl ?_
      refine Rn.br1 rfl (by rw [hv]; exact nI_le (by omega) (by omega)) ?_
      repeat refine Rn.step rfl ?_
      unfold flg
      refine Rn.br rfl (fun h1 => ?_) (fun h1 => ?_)
      · rw [if_pos (Or.inl ((nI_eq (by omega) (by decide)).mp (hv.symm.trans h1)))]
        repeat refine Rn.step rfl ?_
        exact Rn.ret rfl
      · iterate 4 refine Rn.step rfl ?_
        refine Rn.top (x' := nI (n % 4)) (by show v 13 - v 13 / nI 4 * nI 4 = _; rw [hv]; exact pk_rem (by omega) (by decide) (by decide)) ?_
        refine Rn.step rfl ?_
        refine Rn.br rfl (fun h2 => ?_) (fun h2 => ?_)
        · rw [if_neg (fun q => q.elim (fun q => h1 (by rw [hv, q]; rfl)) (fun q => h2 (by rw [q]; rfl)))]
          iterate 2 refine Rn.step rfl ?_
          refine Rn.top hv ?_
          exact Rn.ret rfl
        · rw [if_pos (Or.inr ((nI_eq (b := 3) (by omega) (by decide)).mp (Decidable.not_not.mp h2)))]
          repeat refine Rn.step rfl ?_
          exact Rn.ret rfl
    | succ j ih =>
      intro i hi
      repeat refine Rn.step rfl ?_
      refine Rn.br2 rfl (by rw [hv]; exact nle (by omega) (by omega)) ?_
      repeat refine Rn.step rfl ?_
      refine Rn.br2 rfl (nle (n := 31) (by omega) (by decide)) ?_
      repeat refine Rn.step rfl ?_
      refine Rn.br2 rfl (by show ¬ nI 8 ≤ nI i / nI 4; rw [pk_div (by omega) (by decide) (by decide)]; exact nle (by omega) (by decide)) ?_
      iterate 3 refine Rn.step rfl ?_
      refine Rn.top (x' := nI (i % 4)) (pk_rem (d := 4) (by omega) (by decide) (by decide)) ?_
      repeat refine Rn.step rfl ?_
      refine Rn.ald i rfl rfl (by omega) (by decide) ?_
      refine Rn.calli rfl rfl rfl (by decide) (r_mayStand (Nat.mod_lt _ (by decide)) (a 44 i) _) (fun x1 e1 => ?_)
      unfold flg
      refine Rn.br rfl (fun h1 => ?_) (fun h1 => ?_)
      · rw [if_pos (ib_ne0.mp (e1 ▸ h1))]
        iterate 2 refine Rn.step rfl ?_
        have k3 := ih (i + 1) (by omega)
        rw [nI_succ] at k3
        exact k3
      · rw [if_neg (ib_eq0.mp (e1 ▸ Decidable.not_not.mp h1))]
        repeat refine Rn.step rfl ?_
        exact Rn.ret rfl
  iterate 2 refine Rn.step rfl ?_
  exact key n 0 (by omega)
abbrev tl3 : Type := (Nat → Int32) × (Nat → Int32) × (Nat → Int32)
def tlA (b : Nat → Int32) (q : Nat) (s : tl3) : tl3 := lp (fun l s => (upd s.1 l (b (4 * l) - 97), upd s.2.1 l (b (4 * l + 1) - 48), upd s.2.2 l (if b (4 * l + 2) = 108 then 1 else 0))) 0 q s
abbrev w3 (a : Nat → Nat → Int32) (s : tl3) : Nat → Nat → Int32 := va_up (va_up (va_up a 6 s.1) 7 s.2.1) 8 s.2.2
theorem r_tellLogs1 {n : Nat} (hn : n ≤ 31) (hv : v 13 = nI n) (hf : ¬ flg (a 44) n 0 n = -1) : Rn E 2 mX5_tellLogs (0, [(0, .ref 3), (1, .ref 43)], [], wX a v t r) (some (.int (flg (a 44) n 0 n)), wX a (upd v 4 0) t r) := by
  iterate 2 refine Rn.step rfl ?_
  refine Rn.step rfl ?_
  refine Rn.hp (h2 := wX a (upd v 4 0) t r) rfl ?_
  repeat refine Rn.step rfl ?_
  refine Rn.calli rfl rfl rfl (by decide) (r_faultOfLogs (v := upd v 4 0) hn hv) (fun x1 e1 => ?_)
  repeat refine Rn.step rfl ?_
  refine Rn.br2 rfl (by rw [e1]; exact hf) ?_
  repeat refine Rn.step rfl ?_
  rw [e1]
  exact Rn.ret rfl
theorem flg_ok {b : Nat → Int32} {n : Nat} (hn : n < 2 ^ 31) (h : flg b n 0 n = -1) : n = 0 ∨ n % 4 = 3 := by
  have key : ∀ j i, i + j = n → flg b n i j = -1 → n = 0 ∨ n % 4 = 3 := by
    intro j
    induction j with
    | zero =>
      intro i hi hf
      unfold flg at hf
      split at hf
      · assumption
      · exact absurd hf (nI_ne1 hn)
    | succ j ih =>
      intro i hi hf
      unfold flg at hf
      split at hf
      · exact ih (i + 1) (by omega) hf
      · exact absurd hf (nI_ne1 (by omega))
  exact key n 0 (by omega) h
theorem r_tellLogs2 {n : Nat} (hn : n ≤ 31) (hv : v 13 = nI n) (hf : flg (a 44) n 0 n = -1) : Rn E 2 mX5_tellLogs (0, [(0, .ref 3), (1, .ref 43)], [], wX a v t r) (some (.int (-1)), wX (w3 a (tlA (a 44) ((n + 1) / 4) (a 6, a 7, a 8))) (upd v 4 (nI ((n + 1) / 4))) t r) := by
  have h4 := flg_ok (by omega) hf
  iterate 2 refine Rn.step rfl ?_
  refine Rn.step rfl ?_
  refine Rn.hp (h2 := wX a (upd v 4 0) t r) rfl ?_
  repeat refine Rn.step rfl ?_
  refine Rn.calli rfl rfl rfl (by decide) (r_faultOfLogs (v := upd v 4 0) hn hv) (fun x1 e1 => ?_)
  repeat refine Rn.step rfl ?_
  refine Rn.br1 rfl (by rw [e1]; exact hf) ?_
  iterate 2 refine Rn.step rfl ?_
  refine Rn.lp (σ := tl3) (cfg := fun l s => (19, [(3, .int (nI (4 * l))), (2, .int x1), (0, .ref 3), (1, .ref 43)], [], wX (w3 a s) (upd v 4 (nI l)) t r)) (f := fun l s => (upd s.1 l (a 44 (4 * l) - 97), upd s.2.1 l (a 44 (4 * l + 1) - 48), upd s.2.2 l (if a 44 (4 * l + 2) = 108 then 1 else 0))) (n := (n + 1) / 4) (fun _ _ => True) (fun l s hl _ => ⟨trivial, fun k => ?_⟩) ((n + 1) / 4) 0 (a 6, a 7, a 8) (by omega) trivial (fun s0 hs0 _ => ?_)
  · iterate 3 refine Rn.step rfl ?_
    refine Rn.top (nI_add (4 * l) 2) ?_
    repeat refine Rn.step rfl ?_
    refine Rn.br2 rfl (by show ¬ v 13 ≤ _; rw [hv]; exact nle (by omega) (by omega)) ?_
    iterate 3 refine Rn.step rfl ?_
    refine Rn.top (nI_add (4 * l) 2) ?_
    repeat refine Rn.step rfl ?_
    refine Rn.br2 rfl (nle (n := 31) (by omega) (by decide)) ?_
    repeat refine Rn.step rfl ?_
    refine Rn.br2 rfl (nle (n := 8) (i := l) (by omega) (by decide)) ?_
    repeat refine Rn.step rfl ?_
    refine Rn.ald (4 * l) rfl rfl (by omega) (by decide) ?_
    repeat refine Rn.step rfl ?_
    refine Rn.ast l rfl rfl (by omega) (by decide) (h3 := wX (w3 a (upd s.1 l (a 44 (4 * l) - 97), s.2.1, s.2.2)) (upd v 4 (nI l)) t r) rfl ?_
    repeat refine Rn.step rfl ?_
    refine Rn.ald (4 * l + 1) rfl (nI_add (4 * l) 1) (by omega) (by decide) ?_
    repeat refine Rn.step rfl ?_
    refine Rn.ast l rfl rfl (by omega) (by decide) (h3 := wX (w3 a (upd s.1 l (a 44 (4 * l) - 97), upd s.2.1 l (a 44 (4 * l + 1) - 48), s.2.2)) (upd v 4 (nI l)) t r) rfl ?_
    repeat refine Rn.step rfl ?_
    refine Rn.ald (4 * l + 2) rfl (nI_add (4 * l) 2) (by omega) (by decide) ?_
    repeat refine Rn.step rfl ?_
    have fin : ∀ z : Int32, z = (if a 44 (4 * l + 2) = 108 then 1 else 0) → Rn E 2 mX5_tellLogs (113, [(3, .int (nI (4 * l))), (2, .int x1), (0, .ref 3), (1, .ref 43)], [.int z, .int (nI l), .ref 8], wX (w3 a (upd s.1 l (a 44 (4 * l) - 97), upd s.2.1 l (a 44 (4 * l + 1) - 48), s.2.2)) (upd v 4 (nI l)) t r) (some (.int (-1)), wX (w3 a (tlA (a 44) ((n + 1) / 4) (a 6, a 7, a 8))) (upd v 4 (nI ((n + 1) / 4))) t r) := by
      intro z hz
      refine Rn.ast l rfl rfl (by omega) (by decide) (h3 := wX (w3 a (upd s.1 l (a 44 (4 * l) - 97), upd s.2.1 l (a 44 (4 * l + 1) - 48), upd s.2.2 l z)) (upd v 4 (nI l)) t r) rfl ?_
      iterate 5 refine Rn.step rfl ?_
      refine Rn.top (x' := nI (l + 1)) (nI_1 l) ?_
      refine Rn.step rfl ?_
      refine Rn.hp (h2 := wX (w3 a (upd s.1 l (a 44 (4 * l) - 97), upd s.2.1 l (a 44 (4 * l + 1) - 48), upd s.2.2 l z)) (upd v 4 (nI (l + 1))) t r) rfl ?_
      iterate 2 refine Rn.step rfl ?_
      subst hz
      have e4 : nI (4 * (l + 1)) = nI (4 * l) + 4 := (nI_add (4 * l) 4).symm
      rw [e4] at k
      exact k
    refine Rn.br rfl (fun h1 => ?_) (fun h1 => ?_)
    · refine Rn.step rfl ?_
      exact fin 0 (by have h1 : ¬ a 44 (4 * l + 2) = 108 := h1; rw [if_neg h1])
    · iterate 2 refine Rn.step rfl ?_
      exact fin 1 (by have h1 : ¬ ¬ a 44 (4 * l + 2) = 108 := h1; rw [if_pos (Decidable.not_not.mp h1)])
  · iterate 3 refine Rn.step rfl ?_
    refine Rn.top (nI_add (4 * ((n + 1) / 4)) 2) ?_
    repeat refine Rn.step rfl ?_
    refine Rn.br1 rfl (by show v 13 ≤ _; rw [hv]; exact nI_le (by omega) (by omega)) ?_
    repeat refine Rn.step rfl ?_
    subst hs0
    exact Rn.ret rfl
theorem r_tellSlopes {n : Nat} (hn : n ≤ 16) (hv : v 11 = nI n) : Rn E 1 mX5_tellSlopes (0, [(0, .ref 3), (1, .ref 39)], [], wX a v t r) (some (.int (ffg (a 40) 49 51 0 n)), wX (va_up a 4 (rwA (a 40) n (ffg (a 40) 49 51 0 n) 1 (a 4))) v t r) := by
  repeat refine Rn.step rfl ?_
  refine Rn.calli rfl rfl rfl (by decide) (r_figS 49 51 1 hn hv) (fun x1 e1 => ?_)
  rw [e1]
  exact Rn.ret rfl
theorem r_tellFeeders {n : Nat} (hn : n ≤ 16) (hv : v 12 = nI n) : Rn E 1 mX5_tellFeeders (0, [(0, .ref 3), (1, .ref 41)], [], wX a v t r) (some (.int (ffg (a 42) 48 57 0 n)), wX (va_up a 5 (rwA (a 42) n (ffg (a 42) 48 57 0 n) 0 (a 5))) v t r) := by
  repeat refine Rn.step rfl ?_
  refine Rn.calli rfl rfl rfl (by decide) (r_figF 48 57 0 hn hv) (fun x1 e1 => ?_)
  rw [e1]
  exact Rn.ret rfl
end X3
end
section
section X4
variable {E : iExtT} {a : Nat → Nat → Int32} {v : Nat → Int32} {t : Nat → Nat → Int64} {r : List va_E}
theorem r_unsettle : Rn E 0 mX7_unsettle (0, [(0, .ref 0)], [], wX a v t r) (none, wX a (upd v 1 0) t r) := by
  repeat refine Rn.step rfl ?_
  exact Rn.ret rfl
theorem r_found (k : Int32) : Rn E 0 mX7_found (0, [(0, .ref 0), (1, .int k)], [], wX a v t r) (some (.int (-10 - k)), wX a (upd v 0 k) t r) := by
  repeat refine Rn.step rfl ?_
  exact Rn.ret rfl
theorem r_isLog (x : Int32) : Rn E 1 mX7_isLog (0, [(0, .ref 0), (1, .int x)], [], wX a v t r) (some (.int (ib (inB x (v 4)))), wX a v t r) := by
  repeat refine Rn.step rfl ?_
  refine Rn.calli rfl rfl rfl (by decide) (r_within x (v 4) _) (fun x1 e1 => ?_)
  rw [← e1]
  refine Rn.retb rfl ?_
  rw [e1]
  exact ib_01 _
/-- what the reading of a text leaves: its row, its fault, nothing settled -/
abbrev tg0 (a : Nat → Nat → Int32) (n : Nat) : Nat → Nat → Int32 := va_up (va_up a 4 (rwA (a 40) n (ffg (a 40) 49 51 0 n) 1 (a 4))) 2 (upd (a 2) 0 (ffg (a 40) 49 51 0 n))
abbrev tg1 (a : Nat → Nat → Int32) (n : Nat) : Nat → Nat → Int32 := va_up (va_up a 5 (rwA (a 42) n (ffg (a 42) 48 57 0 n) 0 (a 5))) 2 (upd (a 2) 1 (ffg (a 42) 48 57 0 n))
abbrev tg2 (a : Nat → Nat → Int32) (n : Nat) : Nat → Nat → Int32 := va_up (if flg (a 44) n 0 n = -1 then w3 a (tlA (a 44) ((n + 1) / 4) (a 6, a 7, a 8)) else a) 2 (upd (a 2) 2 (flg (a 44) n 0 n))
abbrev tgv (a : Nat → Nat → Int32) (v : Nat → Int32) (n : Nat) : Nat → Int32 := upd v 4 (if flg (a 44) n 0 n = -1 then nI ((n + 1) / 4) else 0)
theorem r_again0 {n : Nat} (hn : n ≤ 16) (hv : v 11 = nI n) : Rn E 2 mX7_tellAgain (0, [(0, .ref 0), (1, .int 0)], [], wX a v t r) (none, wX (tg0 a n) (upd v 1 0) t r) := by
  repeat refine Rn.step rfl ?_
  refine Rn.calli rfl rfl rfl (by decide) (r_tellSlopes hn hv) (fun x1 e1 => ?_)
  subst e1
  refine Rn.step rfl ?_
  refine Rn.hp (h2 := wX (tg0 a n) v t r) rfl ?_
  repeat refine Rn.step rfl ?_
  refine Rn.callv rfl rfl rfl (by decide) r_unsettle ?_
  exact Rn.ret rfl
theorem r_again1 {n : Nat} (hn : n ≤ 16) (hv : v 12 = nI n) : Rn E 2 mX7_tellAgain (0, [(0, .ref 0), (1, .int 1)], [], wX a v t r) (none, wX (tg1 a n) (upd v 1 0) t r) := by
  repeat refine Rn.step rfl ?_
  refine Rn.calli rfl rfl rfl (by decide) (r_tellFeeders hn hv) (fun x1 e1 => ?_)
  subst e1
  refine Rn.step rfl ?_
  refine Rn.hp (h2 := wX (tg1 a n) v t r) rfl ?_
  repeat refine Rn.step rfl ?_
  refine Rn.callv rfl rfl rfl (by decide) r_unsettle ?_
  exact Rn.ret rfl
theorem r_again2 {n : Nat} (hn : n ≤ 31) (hv : v 13 = nI n) : Rn E 3 mX7_tellAgain (0, [(0, .ref 0), (1, .int 2)], [], wX a v t r) (none, wX (tg2 a n) (upd (tgv a v n) 1 0) t r) := by
  repeat refine Rn.step rfl ?_
  by_cases hf : flg (a 44) n 0 n = -1
  · have e2 : tg2 a n = va_up (w3 a (tlA (a 44) ((n + 1) / 4) (a 6, a 7, a 8))) 2 (upd (a 2) 2 (-1)) := by unfold tg2; rw [if_pos hf, hf]
    have e3 : tgv a v n = upd v 4 (nI ((n + 1) / 4)) := by unfold tgv; rw [if_pos hf]
    rw [e2, e3]
    refine Rn.calli rfl rfl rfl (by decide) (r_tellLogs2 hn hv hf) (fun x1 e1 => ?_)
    subst e1
    refine Rn.step rfl ?_
    refine Rn.hp (h2 := wX (va_up (w3 a (tlA (a 44) ((n + 1) / 4) (a 6, a 7, a 8))) 2 (upd (a 2) 2 (-1))) (upd v 4 (nI ((n + 1) / 4))) t r) rfl ?_
    repeat refine Rn.step rfl ?_
    refine Rn.callv rfl rfl rfl (by decide) r_unsettle ?_
    exact Rn.ret rfl
  · have e2 : tg2 a n = va_up a 2 (upd (a 2) 2 (flg (a 44) n 0 n)) := by unfold tg2; rw [if_neg hf]
    have e3 : tgv a v n = upd v 4 0 := by unfold tgv; rw [if_neg hf]
    rw [e2, e3]
    refine Rn.calli rfl rfl rfl (by decide) (r_tellLogs1 hn hv hf) (fun x1 e1 => ?_)
    subst e1
    refine Rn.step rfl ?_
    refine Rn.hp (h2 := wX (va_up a 2 (upd (a 2) 2 (flg (a 44) n 0 n))) (upd v 4 0) t r) rfl ?_
    repeat refine Rn.step rfl ?_
    refine Rn.callv rfl rfl rfl (by decide) r_unsettle ?_
    exact Rn.ret rfl
-- type
theorem r_type_bad (x b : Int32) (hb : ¬ (inB x 3 ∧ inB b 256)) : Rn E 4 mX7_type (0, [(0, .ref 0), (1, .int x), (2, .int b)], [], wX a v t r) (some (.int (-2)), wX a v t r) := by
  repeat refine Rn.step rfl ?_
  refine Rn.calli rfl rfl rfl (by decide) (r_within x 3 _) (fun x1 e1 => ?_)
  refine Rn.br rfl (fun h1 => ?_) (fun h1 => ?_)
  · repeat refine Rn.step rfl ?_
    exact Rn.ret rfl
  · repeat refine Rn.step rfl ?_
    refine Rn.calli rfl rfl rfl (by decide) (r_within b 256 _) (fun x2 e2 => ?_)
    refine Rn.br2 rfl (fun h2 => hb ⟨ib_ne0.mp (e1 ▸ h1), ib_ne0.mp (e2 ▸ h2)⟩) ?_
    repeat refine Rn.step rfl ?_
    exact Rn.ret rfl
theorem r_type0_full (b : Int32) (hb : inB b 256) (hv : v 11 = nI 16) : Rn E 4 mX7_type (0, [(0, .ref 0), (1, .int 0), (2, .int b)], [], wX a v t r) (some (.int (-4)), wX a v t r) := by
  repeat refine Rn.step rfl ?_
  refine Rn.calli rfl rfl rfl (by decide) (r_within 0 3 _) (fun x1 e1 => ?_)
  refine Rn.br2 rfl (by rw [e1]; decide) ?_
  repeat refine Rn.step rfl ?_
  refine Rn.calli rfl rfl rfl (by decide) (r_within b 256 _) (fun x2 e2 => ?_)
  refine Rn.br1 rfl (by rw [e2, ib_ne0]; exact hb) ?_
  repeat refine Rn.step rfl ?_
  refine Rn.calli rfl rfl rfl (by decide) (r_txFull (T := 39) (V := 11) (c := 16) (by decide) b hv) (fun x3 e3 => ?_)
  refine Rn.br2 rfl (by rw [e3]; decide) ?_
  repeat refine Rn.step rfl ?_
  exact Rn.ret rfl
theorem r_type0 (b : Int32) (hb : inB b 256) {n : Nat} (hn : n < 16) (hv : v 11 = nI n) : Rn E 4 mX7_type (0, [(0, .ref 0), (1, .int 0), (2, .int b)], [], wX a v t r) (some (.int (nI (n + 1))), wX (tg0 (va_up a 40 (upd (a 40) n b)) (n + 1)) (upd (upd v 11 (nI (n + 1))) 1 0) t r) := by
  repeat refine Rn.step rfl ?_
  refine Rn.calli rfl rfl rfl (by decide) (r_within 0 3 _) (fun x1 e1 => ?_)
  refine Rn.br2 rfl (by rw [e1]; decide) ?_
  repeat refine Rn.step rfl ?_
  refine Rn.calli rfl rfl rfl (by decide) (r_within b 256 _) (fun x2 e2 => ?_)
  refine Rn.br1 rfl (by rw [e2, ib_ne0]; exact hb) ?_
  repeat refine Rn.step rfl ?_
  refine Rn.calli rfl rfl rfl (by decide) (r_txAppend (T := 39) (V := 11) (c := 16) (by decide) b hn hv) (fun x3 e3 => ?_)
  refine Rn.br1 rfl (by rw [e3]; decide) ?_
  repeat refine Rn.step rfl ?_
  refine Rn.callv rfl rfl rfl (by decide) (r_again0 (a := (va_up a 40 (upd (a 40) n b))) (v := (upd v 11 (nI (n + 1)))) hn rfl) ?_
  repeat refine Rn.step rfl ?_
  exact Rn.ret rfl
theorem r_wipe0 : Rn E 4 mX7_wipe (0, [(0, .ref 0), (1, .int 0)], [], wX a v t r) (some (.int (v 11)), wX (tg0 a 0) (upd (upd v 11 0) 1 0) t r) := by
  repeat refine Rn.step rfl ?_
  refine Rn.calli rfl rfl rfl (by decide) (r_within 0 3 _) (fun x1 e1 => ?_)
  refine Rn.br1 rfl (by rw [e1]; decide) ?_
  iterate 12 refine Rn.step rfl ?_
  refine Rn.hp (h2 := wX a (upd v 11 0) t r) rfl ?_
  repeat refine Rn.step rfl ?_
  refine Rn.callv rfl rfl rfl (by decide) (r_again0 (a := a) (v := (upd v 11 0)) (n := 0) (by decide) rfl) ?_
  repeat refine Rn.step rfl ?_
  exact Rn.ret rfl
theorem r_undo0_not (hv : v 11 = 0) : Rn E 4 mX7_undo (0, [(0, .ref 0), (1, .int 0)], [], wX a v t r) (some (.int (-3)), wX a v t r) := by
  repeat refine Rn.step rfl ?_
  refine Rn.calli rfl rfl rfl (by decide) (r_within 0 3 _) (fun x1 e1 => ?_)
  refine Rn.br1 rfl (by rw [e1]; decide) ?_
  repeat refine Rn.step rfl ?_
  refine Rn.br2 rfl (fun q => q hv) ?_
  repeat refine Rn.step rfl ?_
  exact Rn.ret rfl
theorem r_undo0 {n : Nat} (hn : n < 16) (hv : v 11 = nI (n + 1)) : Rn E 4 mX7_undo (0, [(0, .ref 0), (1, .int 0)], [], wX a v t r) (some (.int (nI n)), wX (tg0 a n) (upd (upd v 11 (nI n)) 1 0) t r) := by
  repeat refine Rn.step rfl ?_
  refine Rn.calli rfl rfl rfl (by decide) (r_within 0 3 _) (fun x1 e1 => ?_)
  refine Rn.br1 rfl (by rw [e1]; decide) ?_
  repeat refine Rn.step rfl ?_
  refine Rn.br1 rfl (by rw [hv]; exact nI_ne0 (by omega) (by omega)) ?_
  iterate 8 refine Rn.step rfl ?_
  refine Rn.top (x' := nI n) (by show v 11 - 1 = _; rw [hv]; exact nI_pred n) ?_
  refine Rn.step rfl ?_
  refine Rn.hp (h2 := wX a (upd v 11 (nI n)) t r) rfl ?_
  repeat refine Rn.step rfl ?_
  refine Rn.callv rfl rfl rfl (by decide) (r_again0 (a := a) (v := (upd v 11 (nI n))) (n := n) (by omega) rfl) ?_
  repeat refine Rn.step rfl ?_
  exact Rn.ret rfl
theorem r_type1_full (b : Int32) (hb : inB b 256) (hv : v 12 = nI 16) : Rn E 4 mX7_type (0, [(0, .ref 0), (1, .int 1), (2, .int b)], [], wX a v t r) (some (.int (-4)), wX a v t r) := by
  repeat refine Rn.step rfl ?_
  refine Rn.calli rfl rfl rfl (by decide) (r_within 1 3 _) (fun x1 e1 => ?_)
  refine Rn.br2 rfl (by rw [e1]; decide) ?_
  repeat refine Rn.step rfl ?_
  refine Rn.calli rfl rfl rfl (by decide) (r_within b 256 _) (fun x2 e2 => ?_)
  refine Rn.br1 rfl (by rw [e2, ib_ne0]; exact hb) ?_
  repeat refine Rn.step rfl ?_
  refine Rn.calli rfl rfl rfl (by decide) (r_txFull (T := 41) (V := 12) (c := 16) (by decide) b hv) (fun x3 e3 => ?_)
  refine Rn.br2 rfl (by rw [e3]; decide) ?_
  repeat refine Rn.step rfl ?_
  exact Rn.ret rfl
theorem r_type1 (b : Int32) (hb : inB b 256) {n : Nat} (hn : n < 16) (hv : v 12 = nI n) : Rn E 4 mX7_type (0, [(0, .ref 0), (1, .int 1), (2, .int b)], [], wX a v t r) (some (.int (nI (n + 1))), wX (tg1 (va_up a 42 (upd (a 42) n b)) (n + 1)) (upd (upd v 12 (nI (n + 1))) 1 0) t r) := by
  repeat refine Rn.step rfl ?_
  refine Rn.calli rfl rfl rfl (by decide) (r_within 1 3 _) (fun x1 e1 => ?_)
  refine Rn.br2 rfl (by rw [e1]; decide) ?_
  repeat refine Rn.step rfl ?_
  refine Rn.calli rfl rfl rfl (by decide) (r_within b 256 _) (fun x2 e2 => ?_)
  refine Rn.br1 rfl (by rw [e2, ib_ne0]; exact hb) ?_
  repeat refine Rn.step rfl ?_
  refine Rn.calli rfl rfl rfl (by decide) (r_txAppend (T := 41) (V := 12) (c := 16) (by decide) b hn hv) (fun x3 e3 => ?_)
  refine Rn.br1 rfl (by rw [e3]; decide) ?_
  repeat refine Rn.step rfl ?_
  refine Rn.callv rfl rfl rfl (by decide) (r_again1 (a := (va_up a 42 (upd (a 42) n b))) (v := (upd v 12 (nI (n + 1)))) hn rfl) ?_
  repeat refine Rn.step rfl ?_
  exact Rn.ret rfl
theorem r_wipe1 : Rn E 4 mX7_wipe (0, [(0, .ref 0), (1, .int 1)], [], wX a v t r) (some (.int (v 12)), wX (tg1 a 0) (upd (upd v 12 0) 1 0) t r) := by
  repeat refine Rn.step rfl ?_
  refine Rn.calli rfl rfl rfl (by decide) (r_within 1 3 _) (fun x1 e1 => ?_)
  refine Rn.br1 rfl (by rw [e1]; decide) ?_
  iterate 12 refine Rn.step rfl ?_
  refine Rn.hp (h2 := wX a (upd v 12 0) t r) rfl ?_
  repeat refine Rn.step rfl ?_
  refine Rn.callv rfl rfl rfl (by decide) (r_again1 (a := a) (v := (upd v 12 0)) (n := 0) (by decide) rfl) ?_
  repeat refine Rn.step rfl ?_
  exact Rn.ret rfl
theorem r_undo1_not (hv : v 12 = 0) : Rn E 4 mX7_undo (0, [(0, .ref 0), (1, .int 1)], [], wX a v t r) (some (.int (-3)), wX a v t r) := by
  repeat refine Rn.step rfl ?_
  refine Rn.calli rfl rfl rfl (by decide) (r_within 1 3 _) (fun x1 e1 => ?_)
  refine Rn.br1 rfl (by rw [e1]; decide) ?_
  repeat refine Rn.step rfl ?_
  refine Rn.br2 rfl (fun q => q hv) ?_
  repeat refine Rn.step rfl ?_
  exact Rn.ret rfl
theorem r_undo1 {n : Nat} (hn : n < 16) (hv : v 12 = nI (n + 1)) : Rn E 4 mX7_undo (0, [(0, .ref 0), (1, .int 1)], [], wX a v t r) (some (.int (nI n)), wX (tg1 a n) (upd (upd v 12 (nI n)) 1 0) t r) := by
  repeat refine Rn.step rfl ?_
  refine Rn.calli rfl rfl rfl (by decide) (r_within 1 3 _) (fun x1 e1 => ?_)
  refine Rn.br1 rfl (by rw [e1]; decide) ?_
  repeat refine Rn.step rfl ?_
  refine Rn.br1 rfl (by rw [hv]; exact nI_ne0 (by omega) (by omega)) ?_
  iterate 8 refine Rn.step rfl ?_
  refine Rn.top (x' := nI n) (by show v 12 - 1 = _; rw [hv]; exact nI_pred n) ?_
  refine Rn.step rfl ?_
  refine Rn.hp (h2 := wX a (upd v 12 (nI n)) t r) rfl ?_
  repeat refine Rn.step rfl ?_
  refine Rn.callv rfl rfl rfl (by decide) (r_again1 (a := a) (v := (upd v 12 (nI n))) (n := n) (by omega) rfl) ?_
  repeat refine Rn.step rfl ?_
  exact Rn.ret rfl
theorem r_type2_full (b : Int32) (hb : inB b 256) (hv : v 13 = nI 31) : Rn E 4 mX7_type (0, [(0, .ref 0), (1, .int 2), (2, .int b)], [], wX a v t r) (some (.int (-4)), wX a v t r) := by
  repeat refine Rn.step rfl ?_
  refine Rn.calli rfl rfl rfl (by decide) (r_within 2 3 _) (fun x1 e1 => ?_)
  refine Rn.br2 rfl (by rw [e1]; decide) ?_
  repeat refine Rn.step rfl ?_
  refine Rn.calli rfl rfl rfl (by decide) (r_within b 256 _) (fun x2 e2 => ?_)
  refine Rn.br1 rfl (by rw [e2, ib_ne0]; exact hb) ?_
  repeat refine Rn.step rfl ?_
  refine Rn.calli rfl rfl rfl (by decide) (r_txFull (T := 43) (V := 13) (c := 31) (by decide) b hv) (fun x3 e3 => ?_)
  refine Rn.br2 rfl (by rw [e3]; decide) ?_
  repeat refine Rn.step rfl ?_
  exact Rn.ret rfl
theorem r_type2 (b : Int32) (hb : inB b 256) {n : Nat} (hn : n < 31) (hv : v 13 = nI n) : Rn E 4 mX7_type (0, [(0, .ref 0), (1, .int 2), (2, .int b)], [], wX a v t r) (some (.int (nI (n + 1))), wX (tg2 (va_up a 44 (upd (a 44) n b)) (n + 1)) (upd (tgv (va_up a 44 (upd (a 44) n b)) (upd v 13 (nI (n + 1))) (n + 1)) 1 0) t r) := by
  repeat refine Rn.step rfl ?_
  refine Rn.calli rfl rfl rfl (by decide) (r_within 2 3 _) (fun x1 e1 => ?_)
  refine Rn.br2 rfl (by rw [e1]; decide) ?_
  repeat refine Rn.step rfl ?_
  refine Rn.calli rfl rfl rfl (by decide) (r_within b 256 _) (fun x2 e2 => ?_)
  refine Rn.br1 rfl (by rw [e2, ib_ne0]; exact hb) ?_
  repeat refine Rn.step rfl ?_
  refine Rn.calli rfl rfl rfl (by decide) (r_txAppend (T := 43) (V := 13) (c := 31) (by decide) b hn hv) (fun x3 e3 => ?_)
  refine Rn.br1 rfl (by rw [e3]; decide) ?_
  repeat refine Rn.step rfl ?_
  refine Rn.callv rfl rfl rfl (by decide) (r_again2 (a := (va_up a 44 (upd (a 44) n b))) (v := (upd v 13 (nI (n + 1)))) hn rfl) ?_
  repeat refine Rn.step rfl ?_
  exact Rn.ret rfl
theorem r_wipe2 : Rn E 4 mX7_wipe (0, [(0, .ref 0), (1, .int 2)], [], wX a v t r) (some (.int (v 13)), wX (tg2 a 0) (upd (tgv a (upd v 13 0) 0) 1 0) t r) := by
  repeat refine Rn.step rfl ?_
  refine Rn.calli rfl rfl rfl (by decide) (r_within 2 3 _) (fun x1 e1 => ?_)
  refine Rn.br1 rfl (by rw [e1]; decide) ?_
  iterate 12 refine Rn.step rfl ?_
  refine Rn.hp (h2 := wX a (upd v 13 0) t r) rfl ?_
  repeat refine Rn.step rfl ?_
  refine Rn.callv rfl rfl rfl (by decide) (r_again2 (a := a) (v := (upd v 13 0)) (n := 0) (by decide) rfl) ?_
  repeat refine Rn.step rfl ?_
  exact Rn.ret rfl
theorem r_undo2_not (hv : v 13 = 0) : Rn E 4 mX7_undo (0, [(0, .ref 0), (1, .int 2)], [], wX a v t r) (some (.int (-3)), wX a v t r) := by
  repeat refine Rn.step rfl ?_
  refine Rn.calli rfl rfl rfl (by decide) (r_within 2 3 _) (fun x1 e1 => ?_)
  refine Rn.br1 rfl (by rw [e1]; decide) ?_
  repeat refine Rn.step rfl ?_
  refine Rn.br2 rfl (fun q => q hv) ?_
  repeat refine Rn.step rfl ?_
  exact Rn.ret rfl
theorem r_undo2 {n : Nat} (hn : n < 31) (hv : v 13 = nI (n + 1)) : Rn E 4 mX7_undo (0, [(0, .ref 0), (1, .int 2)], [], wX a v t r) (some (.int (nI n)), wX (tg2 a n) (upd (tgv a (upd v 13 (nI n)) n) 1 0) t r) := by
  repeat refine Rn.step rfl ?_
  refine Rn.calli rfl rfl rfl (by decide) (r_within 2 3 _) (fun x1 e1 => ?_)
  refine Rn.br1 rfl (by rw [e1]; decide) ?_
  repeat refine Rn.step rfl ?_
  refine Rn.br1 rfl (by rw [hv]; exact nI_ne0 (by omega) (by omega)) ?_
  iterate 8 refine Rn.step rfl ?_
  refine Rn.top (x' := nI n) (by show v 13 - 1 = _; rw [hv]; exact nI_pred n) ?_
  refine Rn.step rfl ?_
  refine Rn.hp (h2 := wX a (upd v 13 (nI n)) t r) rfl ?_
  repeat refine Rn.step rfl ?_
  refine Rn.callv rfl rfl rfl (by decide) (r_again2 (a := a) (v := (upd v 13 (nI n))) (n := n) (by omega) rfl) ?_
  repeat refine Rn.step rfl ?_
  exact Rn.ret rfl
theorem r_wipe_bad (x : Int32) (hb : ¬ inB x 3) : Rn E 4 mX7_wipe (0, [(0, .ref 0), (1, .int x)], [], wX a v t r) (some (.int (-2)), wX a v t r) := by
  repeat refine Rn.step rfl ?_
  refine Rn.calli rfl rfl rfl (by decide) (r_within x 3 _) (fun x1 e1 => ?_)
  refine Rn.br2 rfl (fun h1 => hb (ib_ne0.mp (e1 ▸ h1))) ?_
  repeat refine Rn.step rfl ?_
  exact Rn.ret rfl
theorem r_undo_bad (x : Int32) (hb : ¬ inB x 3) : Rn E 4 mX7_undo (0, [(0, .ref 0), (1, .int x)], [], wX a v t r) (some (.int (-2)), wX a v t r) := by
  repeat refine Rn.step rfl ?_
  refine Rn.calli rfl rfl rfl (by decide) (r_within x 3 _) (fun x1 e1 => ?_)
  refine Rn.br2 rfl (fun h1 => hb (ib_ne0.mp (e1 ▸ h1))) ?_
  repeat refine Rn.step rfl ?_
  exact Rn.ret rfl
end X4
end
section
section X5
variable {E : iExtT} {a : Nat → Nat → Int32} {v : Nat → Int32} {t : Nat → Nat → Int64} {r : List va_E}
/-- the water that comes to a span in a minute, out of what stands there -/
def cel0 (m s : Nat) (g : Nat → Int32) : Int32 := if 0 < m ∧ 0 < s then g ((m - 1) * 16 + (s - 1)) else 0
def cel1 (x : Int32) : Int32 := if 0 < x then x + -1 else x
abbrev b0 (x : Int32) (s : Nat) : Prop := (x >>> (nI s &&& 31)) &&& 1 = 0
def cel2 (fe : Nat → Int32) (sh : Int32) (s : Nat) (x : Int32) : Int32 := if b0 sh s then (if 20 < x + fe s then 20 else x + fe s) else x
def cel (fe sh bu : Nat → Int32) (m s : Nat) (g : Nat → Int32) : Int32 := if b0 (bu m) s then cel2 fe (sh m) s (cel1 (cel0 m s g)) else 0
def wlA (fe sh bu : Nat → Int32) (f0 : Nat → Int32) : Nat → Int32 := lp (fun m g => lp (fun s g => upd g (m * 16 + s) (cel fe sh bu m s g)) 0 16 g) 0 24 f0
theorem ix_pour {m s : Nat} (hm : 0 < m) (hs : 0 < s) : (nI m - nI 1) * nI 16 + nI s - nI 1 = nI ((m - 1) * 16 + (s - 1)) := by
  rw [pk_sub hm, pk_mul, nI_add, pk_sub (by omega)]
  congr 1
  omega
theorem npos {m : Nat} (h : m < 2 ^ 31) : (¬ nI m ≤ 0) ↔ 0 < m := by
  rw [show (0 : Int32) = nI 0 from rfl, nI_leI h (by decide)]
  omega
theorem r_pour1 (kp : Int32) {k : Nat} (hk : k ≤ 8) (hv : v 5 = nI k) {mn : Nat → Nat} (hmn : ∀ e, e < k → a 11 e = nI (mn e) ∧ mn e < 24) {SH BU : Nat → Int32} (hSH : SH = mkA (a 10) mn (a 12) k 1 kp (a 20)) (hBU : BU = mkA (a 10) mn (a 12) k 2 kp (a 21)) : Rn E 1 mX6_pour (0, [(0, .ref 18), (1, .ref 5), (2, .ref 9), (3, .int kp)], [], wX a v t r) (none, wX (va_up (va_up (va_up a 20 SH) 21 BU) 19 (wlA (a 5) SH BU (a 19))) v t r) := by
  repeat refine Rn.step rfl ?_
  refine Rn.callv rfl rfl rfl (by decide) (r_mark (K := 20) (by decide) 1 kp hk hv hmn) ?_
  rw [← hSH]
  repeat refine Rn.step rfl ?_
  refine Rn.callv rfl rfl rfl (by decide) (r_mark (a := (va_up a 20 SH)) (K := 21) (by decide) 2 kp hk hv hmn) ?_
  refine Rn.hp (h2 := wX (va_up (va_up a 20 SH) 21 BU) v t r) (by subst hBU; rfl) ?_
  iterate 2 refine Rn.step rfl ?_
  refine Rn.lp (σ := Nat → Int32) (cfg := fun m g => (23, [(4, .int (nI m)), (0, .ref 18), (1, .ref 5), (2, .ref 9), (3, .int kp)], [], wX (va_up (va_up (va_up a 20 SH) 21 BU) 19 g) v t r)) (f := fun m g => lp (fun s g => upd g (m * 16 + s) (cel (a 5) SH BU m s g)) 0 16 g) (n := 24) (fun _ _ => True) (fun m g hm _ => ⟨trivial, fun k1 => ?_⟩) 24 0 (a 19) rfl trivial (fun g0 hg0 _ => ?_)
  · rw [nI_succ] at k1
    repeat refine Rn.step rfl ?_
    refine Rn.br2 rfl (nle hm (by decide)) ?_
    iterate 2 refine Rn.step rfl ?_
    refine Rn.lp (σ := Nat → Int32) (cfg := fun s g => (33, [(5, .int (nI s)), (4, .int (nI m)), (0, .ref 18), (1, .ref 5), (2, .ref 9), (3, .int kp)], [], wX (va_up (va_up (va_up a 20 SH) 21 BU) 19 g) v t r)) (f := fun s g => upd g (m * 16 + s) (cel (a 5) SH BU m s g)) (n := 16) (fun _ _ => True) (fun s g hs _ => ⟨trivial, fun k2 => ?_⟩) 16 0 g rfl trivial (fun g1 hg1 _ => ?_)
    · rw [nI_succ] at k2
      have st4 : ∀ x : Int32, x = cel2 (a 5) (SH m) s (cel1 (cel0 m s g)) → Rn E 1 mX6_pour (117, [(6, .int x), (5, .int (nI s)), (4, .int (nI m)), (0, .ref 18), (1, .ref 5), (2, .ref 9), (3, .int kp)], [], wX (va_up (va_up (va_up a 20 SH) 21 BU) 19 g) v t r) (none, wX (va_up (va_up (va_up a 20 SH) 21 BU) 19 (wlA (a 5) SH BU (a 19))) v t r) := by
        intro x ex
        repeat refine Rn.step rfl ?_
        refine Rn.ald m rfl rfl hm (by decide) ?_
        repeat refine Rn.step rfl ?_
        refine Rn.br rfl (fun h1 => ?_) (fun h1 => ?_)
        · rw [show cel (a 5) SH BU m s g = 0 from if_neg h1] at k2
          refine Rn.step rfl ?_
          refine Rn.ast (m * 16 + s) rfl (ix_ma m 16 s) (by omega) (by decide) (h3 := wX (va_up (va_up (va_up a 20 SH) 21 BU) 19 (upd g (m * 16 + s) 0)) v t r) rfl ?_
          iterate 2 refine Rn.step rfl ?_
          exact Rn.sub (by exact ⟨rfl, rfl, rfl, rfl, rfl, rfl, trivial⟩) k2
        · rw [show cel (a 5) SH BU m s g = x from by rw [ex]; exact if_pos (Decidable.not_not.mp h1)] at k2
          iterate 2 refine Rn.step rfl ?_
          refine Rn.ast (m * 16 + s) rfl (ix_ma m 16 s) (by omega) (by decide) (h3 := wX (va_up (va_up (va_up a 20 SH) 21 BU) 19 (upd g (m * 16 + s) x)) v t r) rfl ?_
          iterate 2 refine Rn.step rfl ?_
          exact Rn.sub (by exact ⟨rfl, rfl, rfl, rfl, rfl, rfl, trivial⟩) k2
      have st3 : ∀ x : Int32, x = cel1 (cel0 m s g) → Rn E 1 mX6_pour (88, [(6, .int x), (5, .int (nI s)), (4, .int (nI m)), (0, .ref 18), (1, .ref 5), (2, .ref 9), (3, .int kp)], [], wX (va_up (va_up (va_up a 20 SH) 21 BU) 19 g) v t r) (none, wX (va_up (va_up (va_up a 20 SH) 21 BU) 19 (wlA (a 5) SH BU (a 19))) v t r) := by
        intro x ex
        repeat refine Rn.step rfl ?_
        refine Rn.ald m rfl rfl hm (by decide) ?_
        repeat refine Rn.step rfl ?_
        refine Rn.br rfl (fun h1 => ?_) (fun h1 => ?_)
        · exact st4 x (by rw [← ex]; exact (if_neg h1).symm)
        · repeat refine Rn.step rfl ?_
          refine Rn.ald s rfl rfl hs (by decide) ?_
          iterate 4 refine Rn.step rfl ?_
          exact st4 _ (by rw [← ex]; exact (if_pos (Decidable.not_not.mp h1)).symm)
      have st2 : ∀ x : Int32, x = cel0 m s g → Rn E 1 mX6_pour (78, [(5, .int (nI s)), (4, .int (nI m)), (0, .ref 18), (1, .ref 5), (2, .ref 9), (3, .int kp)], [.int x], wX (va_up (va_up (va_up a 20 SH) 21 BU) 19 g) v t r) (none, wX (va_up (va_up (va_up a 20 SH) 21 BU) 19 (wlA (a 5) SH BU (a 19))) v t r) := by
        intro x ex
        repeat refine Rn.step rfl ?_
        refine Rn.br rfl (fun h1 => ?_) (fun h1 => ?_)
        · exact st3 x (by rw [← ex]; exact (if_neg (Int32.not_lt.mpr h1)).symm)
        · refine Rn.step rfl ?_
          exact st3 _ (by rw [← ex]; exact (if_pos (Int32.not_le.mp h1)).symm)
      repeat refine Rn.step rfl ?_
      refine Rn.br2 rfl (nle hs (by decide)) ?_
      repeat refine Rn.step rfl ?_
      refine Rn.br2 rfl (nle (n := 16) hs (by decide)) ?_
      repeat refine Rn.step rfl ?_
      refine Rn.br rfl (fun h1 => ?_) (fun h1 => ?_)
      · refine Rn.step rfl ?_
        refine Rn.sub (by exact ⟨rfl, rfl, rfl, rfl, rfl, rfl, trivial⟩) (st2 0 ?_)
        exact (if_neg (fun q => (npos (by omega)).mpr q.1 h1)).symm
      · repeat refine Rn.step rfl ?_
        refine Rn.br rfl (fun h2 => ?_) (fun h2 => ?_)
        · refine Rn.step rfl ?_
          refine Rn.sub (by exact ⟨rfl, rfl, rfl, rfl, rfl, rfl, trivial⟩) (st2 0 ?_)
          exact (if_neg (fun q => (npos (by omega)).mpr q.2 h2)).symm
        · have p1 := (npos (by omega)).mp h1
          have p2 := (npos (by omega)).mp h2
          repeat refine Rn.step rfl ?_
          refine Rn.ald ((m - 1) * 16 + (s - 1)) rfl (ix_pour p1 p2) (by omega) (by decide) ?_
          refine Rn.step rfl ?_
          refine Rn.sub (by exact ⟨rfl, rfl, rfl, rfl, rfl, rfl, trivial⟩) (st2 _ ?_)
          exact (if_pos ⟨p1, p2⟩).symm
    · iterate 5 refine Rn.step rfl ?_
      subst hg1
      exact Rn.sub (by exact ⟨rfl, rfl, rfl, rfl, rfl, trivial⟩) k1
  · repeat refine Rn.step rfl ?_
    subst hg0
    exact Rn.ret rfl
theorem r_pour2 (kp : Int32) {k : Nat} (hk : k ≤ 8) (hv : v 5 = nI k) {mn : Nat → Nat} (hmn : ∀ e, e < k → a 11 e = nI (mn e) ∧ mn e < 24) {SH BU : Nat → Int32} (hSH : SH = mkA (a 10) mn (a 12) k 1 kp (a 29)) (hBU : BU = mkA (a 10) mn (a 12) k 2 kp (a 30)) : Rn E 1 mX6_pour (0, [(0, .ref 27), (1, .ref 5), (2, .ref 9), (3, .int kp)], [], wX a v t r) (none, wX (va_up (va_up (va_up a 29 SH) 30 BU) 28 (wlA (a 5) SH BU (a 28))) v t r) := by
  repeat refine Rn.step rfl ?_
  refine Rn.callv rfl rfl rfl (by decide) (r_mark (K := 29) (by decide) 1 kp hk hv hmn) ?_
  rw [← hSH]
  repeat refine Rn.step rfl ?_
  refine Rn.callv rfl rfl rfl (by decide) (r_mark (a := (va_up a 29 SH)) (K := 30) (by decide) 2 kp hk hv hmn) ?_
  refine Rn.hp (h2 := wX (va_up (va_up a 29 SH) 30 BU) v t r) (by subst hBU; rfl) ?_
  iterate 2 refine Rn.step rfl ?_
  refine Rn.lp (σ := Nat → Int32) (cfg := fun m g => (23, [(4, .int (nI m)), (0, .ref 27), (1, .ref 5), (2, .ref 9), (3, .int kp)], [], wX (va_up (va_up (va_up a 29 SH) 30 BU) 28 g) v t r)) (f := fun m g => lp (fun s g => upd g (m * 16 + s) (cel (a 5) SH BU m s g)) 0 16 g) (n := 24) (fun _ _ => True) (fun m g hm _ => ⟨trivial, fun k1 => ?_⟩) 24 0 (a 28) rfl trivial (fun g0 hg0 _ => ?_)
  · rw [nI_succ] at k1
    repeat refine Rn.step rfl ?_
    refine Rn.br2 rfl (nle hm (by decide)) ?_
    iterate 2 refine Rn.step rfl ?_
    refine Rn.lp (σ := Nat → Int32) (cfg := fun s g => (33, [(5, .int (nI s)), (4, .int (nI m)), (0, .ref 27), (1, .ref 5), (2, .ref 9), (3, .int kp)], [], wX (va_up (va_up (va_up a 29 SH) 30 BU) 28 g) v t r)) (f := fun s g => upd g (m * 16 + s) (cel (a 5) SH BU m s g)) (n := 16) (fun _ _ => True) (fun s g hs _ => ⟨trivial, fun k2 => ?_⟩) 16 0 g rfl trivial (fun g1 hg1 _ => ?_)
    · rw [nI_succ] at k2
      have st4 : ∀ x : Int32, x = cel2 (a 5) (SH m) s (cel1 (cel0 m s g)) → Rn E 1 mX6_pour (117, [(6, .int x), (5, .int (nI s)), (4, .int (nI m)), (0, .ref 27), (1, .ref 5), (2, .ref 9), (3, .int kp)], [], wX (va_up (va_up (va_up a 29 SH) 30 BU) 28 g) v t r) (none, wX (va_up (va_up (va_up a 29 SH) 30 BU) 28 (wlA (a 5) SH BU (a 28))) v t r) := by
        intro x ex
        repeat refine Rn.step rfl ?_
        refine Rn.ald m rfl rfl hm (by decide) ?_
        repeat refine Rn.step rfl ?_
        refine Rn.br rfl (fun h1 => ?_) (fun h1 => ?_)
        · rw [show cel (a 5) SH BU m s g = 0 from if_neg h1] at k2
          refine Rn.step rfl ?_
          refine Rn.ast (m * 16 + s) rfl (ix_ma m 16 s) (by omega) (by decide) (h3 := wX (va_up (va_up (va_up a 29 SH) 30 BU) 28 (upd g (m * 16 + s) 0)) v t r) rfl ?_
          iterate 2 refine Rn.step rfl ?_
          exact Rn.sub (by exact ⟨rfl, rfl, rfl, rfl, rfl, rfl, trivial⟩) k2
        · rw [show cel (a 5) SH BU m s g = x from by rw [ex]; exact if_pos (Decidable.not_not.mp h1)] at k2
          iterate 2 refine Rn.step rfl ?_
          refine Rn.ast (m * 16 + s) rfl (ix_ma m 16 s) (by omega) (by decide) (h3 := wX (va_up (va_up (va_up a 29 SH) 30 BU) 28 (upd g (m * 16 + s) x)) v t r) rfl ?_
          iterate 2 refine Rn.step rfl ?_
          exact Rn.sub (by exact ⟨rfl, rfl, rfl, rfl, rfl, rfl, trivial⟩) k2
      have st3 : ∀ x : Int32, x = cel1 (cel0 m s g) → Rn E 1 mX6_pour (88, [(6, .int x), (5, .int (nI s)), (4, .int (nI m)), (0, .ref 27), (1, .ref 5), (2, .ref 9), (3, .int kp)], [], wX (va_up (va_up (va_up a 29 SH) 30 BU) 28 g) v t r) (none, wX (va_up (va_up (va_up a 29 SH) 30 BU) 28 (wlA (a 5) SH BU (a 28))) v t r) := by
        intro x ex
        repeat refine Rn.step rfl ?_
        refine Rn.ald m rfl rfl hm (by decide) ?_
        repeat refine Rn.step rfl ?_
        refine Rn.br rfl (fun h1 => ?_) (fun h1 => ?_)
        · exact st4 x (by rw [← ex]; exact (if_neg h1).symm)
        · repeat refine Rn.step rfl ?_
          refine Rn.ald s rfl rfl hs (by decide) ?_
          iterate 4 refine Rn.step rfl ?_
          exact st4 _ (by rw [← ex]; exact (if_pos (Decidable.not_not.mp h1)).symm)
      have st2 : ∀ x : Int32, x = cel0 m s g → Rn E 1 mX6_pour (78, [(5, .int (nI s)), (4, .int (nI m)), (0, .ref 27), (1, .ref 5), (2, .ref 9), (3, .int kp)], [.int x], wX (va_up (va_up (va_up a 29 SH) 30 BU) 28 g) v t r) (none, wX (va_up (va_up (va_up a 29 SH) 30 BU) 28 (wlA (a 5) SH BU (a 28))) v t r) := by
        intro x ex
        repeat refine Rn.step rfl ?_
        refine Rn.br rfl (fun h1 => ?_) (fun h1 => ?_)
        · exact st3 x (by rw [← ex]; exact (if_neg (Int32.not_lt.mpr h1)).symm)
        · refine Rn.step rfl ?_
          exact st3 _ (by rw [← ex]; exact (if_pos (Int32.not_le.mp h1)).symm)
      repeat refine Rn.step rfl ?_
      refine Rn.br2 rfl (nle hs (by decide)) ?_
      repeat refine Rn.step rfl ?_
      refine Rn.br2 rfl (nle (n := 16) hs (by decide)) ?_
      repeat refine Rn.step rfl ?_
      refine Rn.br rfl (fun h1 => ?_) (fun h1 => ?_)
      · refine Rn.step rfl ?_
        refine Rn.sub (by exact ⟨rfl, rfl, rfl, rfl, rfl, rfl, trivial⟩) (st2 0 ?_)
        exact (if_neg (fun q => (npos (by omega)).mpr q.1 h1)).symm
      · repeat refine Rn.step rfl ?_
        refine Rn.br rfl (fun h2 => ?_) (fun h2 => ?_)
        · refine Rn.step rfl ?_
          refine Rn.sub (by exact ⟨rfl, rfl, rfl, rfl, rfl, rfl, trivial⟩) (st2 0 ?_)
          exact (if_neg (fun q => (npos (by omega)).mpr q.2 h2)).symm
        · have p1 := (npos (by omega)).mp h1
          have p2 := (npos (by omega)).mp h2
          repeat refine Rn.step rfl ?_
          refine Rn.ald ((m - 1) * 16 + (s - 1)) rfl (ix_pour p1 p2) (by omega) (by decide) ?_
          refine Rn.step rfl ?_
          refine Rn.sub (by exact ⟨rfl, rfl, rfl, rfl, rfl, rfl, trivial⟩) (st2 _ ?_)
          exact (if_pos ⟨p1, p2⟩).symm
    · iterate 5 refine Rn.step rfl ?_
      subst hg1
      exact Rn.sub (by exact ⟨rfl, rfl, rfl, rfl, rfl, trivial⟩) k1
  · repeat refine Rn.step rfl ?_
    subst hg0
    exact Rn.ret rfl
theorem r_pour3 (kp : Int32) {k : Nat} (hk : k ≤ 8) (hv : v 5 = nI k) {mn : Nat → Nat} (hmn : ∀ e, e < k → a 11 e = nI (mn e) ∧ mn e < 24) {SH BU : Nat → Int32} (hSH : SH = mkA (a 10) mn (a 12) k 1 kp (a 29)) (hBU : BU = mkA (a 10) mn (a 12) k 2 kp (a 30)) : Rn E 1 mX6_pour (0, [(0, .ref 27), (1, .ref 36), (2, .ref 9), (3, .int kp)], [], wX a v t r) (none, wX (va_up (va_up (va_up a 29 SH) 30 BU) 28 (wlA (a 36) SH BU (a 28))) v t r) := by
  repeat refine Rn.step rfl ?_
  refine Rn.callv rfl rfl rfl (by decide) (r_mark (K := 29) (by decide) 1 kp hk hv hmn) ?_
  rw [← hSH]
  repeat refine Rn.step rfl ?_
  refine Rn.callv rfl rfl rfl (by decide) (r_mark (a := (va_up a 29 SH)) (K := 30) (by decide) 2 kp hk hv hmn) ?_
  refine Rn.hp (h2 := wX (va_up (va_up a 29 SH) 30 BU) v t r) (by subst hBU; rfl) ?_
  iterate 2 refine Rn.step rfl ?_
  refine Rn.lp (σ := Nat → Int32) (cfg := fun m g => (23, [(4, .int (nI m)), (0, .ref 27), (1, .ref 36), (2, .ref 9), (3, .int kp)], [], wX (va_up (va_up (va_up a 29 SH) 30 BU) 28 g) v t r)) (f := fun m g => lp (fun s g => upd g (m * 16 + s) (cel (a 36) SH BU m s g)) 0 16 g) (n := 24) (fun _ _ => True) (fun m g hm _ => ⟨trivial, fun k1 => ?_⟩) 24 0 (a 28) rfl trivial (fun g0 hg0 _ => ?_)
  · rw [nI_succ] at k1
    repeat refine Rn.step rfl ?_
    refine Rn.br2 rfl (nle hm (by decide)) ?_
    iterate 2 refine Rn.step rfl ?_
    refine Rn.lp (σ := Nat → Int32) (cfg := fun s g => (33, [(5, .int (nI s)), (4, .int (nI m)), (0, .ref 27), (1, .ref 36), (2, .ref 9), (3, .int kp)], [], wX (va_up (va_up (va_up a 29 SH) 30 BU) 28 g) v t r)) (f := fun s g => upd g (m * 16 + s) (cel (a 36) SH BU m s g)) (n := 16) (fun _ _ => True) (fun s g hs _ => ⟨trivial, fun k2 => ?_⟩) 16 0 g rfl trivial (fun g1 hg1 _ => ?_)
    · rw [nI_succ] at k2
      have st4 : ∀ x : Int32, x = cel2 (a 36) (SH m) s (cel1 (cel0 m s g)) → Rn E 1 mX6_pour (117, [(6, .int x), (5, .int (nI s)), (4, .int (nI m)), (0, .ref 27), (1, .ref 36), (2, .ref 9), (3, .int kp)], [], wX (va_up (va_up (va_up a 29 SH) 30 BU) 28 g) v t r) (none, wX (va_up (va_up (va_up a 29 SH) 30 BU) 28 (wlA (a 36) SH BU (a 28))) v t r) := by
        intro x ex
        repeat refine Rn.step rfl ?_
        refine Rn.ald m rfl rfl hm (by decide) ?_
        repeat refine Rn.step rfl ?_
        refine Rn.br rfl (fun h1 => ?_) (fun h1 => ?_)
        · rw [show cel (a 36) SH BU m s g = 0 from if_neg h1] at k2
          refine Rn.step rfl ?_
          refine Rn.ast (m * 16 + s) rfl (ix_ma m 16 s) (by omega) (by decide) (h3 := wX (va_up (va_up (va_up a 29 SH) 30 BU) 28 (upd g (m * 16 + s) 0)) v t r) rfl ?_
          iterate 2 refine Rn.step rfl ?_
          exact Rn.sub (by exact ⟨rfl, rfl, rfl, rfl, rfl, rfl, trivial⟩) k2
        · rw [show cel (a 36) SH BU m s g = x from by rw [ex]; exact if_pos (Decidable.not_not.mp h1)] at k2
          iterate 2 refine Rn.step rfl ?_
          refine Rn.ast (m * 16 + s) rfl (ix_ma m 16 s) (by omega) (by decide) (h3 := wX (va_up (va_up (va_up a 29 SH) 30 BU) 28 (upd g (m * 16 + s) x)) v t r) rfl ?_
          iterate 2 refine Rn.step rfl ?_
          exact Rn.sub (by exact ⟨rfl, rfl, rfl, rfl, rfl, rfl, trivial⟩) k2
      have st3 : ∀ x : Int32, x = cel1 (cel0 m s g) → Rn E 1 mX6_pour (88, [(6, .int x), (5, .int (nI s)), (4, .int (nI m)), (0, .ref 27), (1, .ref 36), (2, .ref 9), (3, .int kp)], [], wX (va_up (va_up (va_up a 29 SH) 30 BU) 28 g) v t r) (none, wX (va_up (va_up (va_up a 29 SH) 30 BU) 28 (wlA (a 36) SH BU (a 28))) v t r) := by
        intro x ex
        repeat refine Rn.step rfl ?_
        refine Rn.ald m rfl rfl hm (by decide) ?_
        repeat refine Rn.step rfl ?_
        refine Rn.br rfl (fun h1 => ?_) (fun h1 => ?_)
        · exact st4 x (by rw [← ex]; exact (if_neg h1).symm)
        · repeat refine Rn.step rfl ?_
          refine Rn.ald s rfl rfl hs (by decide) ?_
          iterate 4 refine Rn.step rfl ?_
          exact st4 _ (by rw [← ex]; exact (if_pos (Decidable.not_not.mp h1)).symm)
      have st2 : ∀ x : Int32, x = cel0 m s g → Rn E 1 mX6_pour (78, [(5, .int (nI s)), (4, .int (nI m)), (0, .ref 27), (1, .ref 36), (2, .ref 9), (3, .int kp)], [.int x], wX (va_up (va_up (va_up a 29 SH) 30 BU) 28 g) v t r) (none, wX (va_up (va_up (va_up a 29 SH) 30 BU) 28 (wlA (a 36) SH BU (a 28))) v t r) := by
        intro x ex
        repeat refine Rn.step rfl ?_
        refine Rn.br rfl (fun h1 => ?_) (fun h1 => ?_)
        · exact st3 x (by rw [← ex]; exact (if_neg (Int32.not_lt.mpr h1)).symm)
        · refine Rn.step rfl ?_
          exact st3 _ (by rw [← ex]; exact (if_pos (Int32.not_le.mp h1)).symm)
      repeat refine Rn.step rfl ?_
      refine Rn.br2 rfl (nle hs (by decide)) ?_
      repeat refine Rn.step rfl ?_
      refine Rn.br2 rfl (nle (n := 16) hs (by decide)) ?_
      repeat refine Rn.step rfl ?_
      refine Rn.br rfl (fun h1 => ?_) (fun h1 => ?_)
      · refine Rn.step rfl ?_
        refine Rn.sub (by exact ⟨rfl, rfl, rfl, rfl, rfl, rfl, trivial⟩) (st2 0 ?_)
        exact (if_neg (fun q => (npos (by omega)).mpr q.1 h1)).symm
      · repeat refine Rn.step rfl ?_
        refine Rn.br rfl (fun h2 => ?_) (fun h2 => ?_)
        · refine Rn.step rfl ?_
          refine Rn.sub (by exact ⟨rfl, rfl, rfl, rfl, rfl, rfl, trivial⟩) (st2 0 ?_)
          exact (if_neg (fun q => (npos (by omega)).mpr q.2 h2)).symm
        · have p1 := (npos (by omega)).mp h1
          have p2 := (npos (by omega)).mp h2
          repeat refine Rn.step rfl ?_
          refine Rn.ald ((m - 1) * 16 + (s - 1)) rfl (ix_pour p1 p2) (by omega) (by decide) ?_
          refine Rn.step rfl ?_
          refine Rn.sub (by exact ⟨rfl, rfl, rfl, rfl, rfl, rfl, trivial⟩) (st2 _ ?_)
          exact (if_pos ⟨p1, p2⟩).symm
    · iterate 5 refine Rn.step rfl ?_
      subst hg1
      exact Rn.sub (by exact ⟨rfl, rfl, rfl, rfl, rfl, trivial⟩) k1
  · repeat refine Rn.step rfl ?_
    subst hg0
    exact Rn.ret rfl
end X5
end
section
section X6
variable {E : iExtT} {a : Nat → Nat → Int32} {v : Nat → Int32} {t : Nat → Nat → Int64} {r : List va_E}
abbrev f2 : Type := (Nat → Int32) × (Nat → Int32)
def bmF (n m : Nat) (x : f2) : f2 := lp (fun l s => (upd s.1 (m * 8 + l) (if 0 < m then s.1 ((m - 1) * 8 + l) else -1), upd s.2 (m * 8 + l) 0)) 0 n x
/-- where a log comes to, and 1 aground, 2 blocked: po by a pole, blk the next span isn't free -/
def mvF (po : Bool) (wl : Nat → Int32) (de : Int32) (blk : Nat → Bool) (steps : Int32) : Nat → Nat → Nat → Nat × Nat
  | 0, _, h => (h, 0)
  | f + 1, k, h => if steps ≤ nI k ∨ 16 ≤ h then (h, 0) else if po = false ∧ wl h < de then (h, 1) else if blk h = true then (h, 2) else mvF po wl de blk steps f (k + 1) (h + 1)
theorem ix_beg {m l : Nat} (hm : 0 < m) : (nI m - nI 1) * nI 8 + nI l = nI ((m - 1) * 8 + l) := by rw [pk_sub hm, pk_mul, nI_add]
theorem r_beg1 {n m : Nat} (hn : n ≤ 8) (hv : v 4 = nI n) (hm : m < 24) : Rn E 0 mX0_beginMinute (0, [(0, .ref 22), (1, .ref 3), (2, .int (nI m))], [], wX a v t r) (none, wX (va_up (va_up a 23 (bmF n m (a 23, a 24)).1) 24 (bmF n m (a 23, a 24)).2) v t r) := by
  iterate 2 refine Rn.step rfl ?_
  refine Rn.lp (σ := f2) (cfg := fun l s => (2, [(3, .int (nI l)), (0, .ref 22), (1, .ref 3), (2, .int (nI m))], [], wX (va_up (va_up a 23 s.1) 24 s.2) v t r)) (f := fun l s => (upd s.1 (m * 8 + l) (if 0 < m then s.1 ((m - 1) * 8 + l) else -1), upd s.2 (m * 8 + l) 0)) (n := n) (fun _ _ => True) (fun l s hl _ => ⟨trivial, fun k => ?_⟩) n 0 (a 23, a 24) (by omega) trivial (fun s0 hs0 _ => ?_)
  · rw [nI_succ] at k
    have fin : ∀ z : Int32, z = (if 0 < m then s.1 ((m - 1) * 8 + l) else -1) → Rn E 0 mX0_beginMinute (41, [(3, .int (nI l)), (0, .ref 22), (1, .ref 3), (2, .int (nI m))], [.int z, .int (nI m * 8 + nI l), .ref 23], wX (va_up (va_up a 23 s.1) 24 s.2) v t r) (none, wX (va_up (va_up a 23 (bmF n m (a 23, a 24)).1) 24 (bmF n m (a 23, a 24)).2) v t r) := by
      intro z hz
      rw [← hz] at k
      refine Rn.ast (m * 8 + l) rfl (ix_ma m 8 l) (by omega) (by decide) (h3 := wX (va_up (va_up a 23 (upd s.1 (m * 8 + l) z)) 24 s.2) v t r) rfl ?_
      repeat refine Rn.step rfl ?_
      refine Rn.ast (m * 8 + l) rfl (ix_ma m 8 l) (by omega) (by decide) (h3 := wX (va_up (va_up a 23 (upd s.1 (m * 8 + l) z)) 24 (upd s.2 (m * 8 + l) 0)) v t r) rfl ?_
      iterate 2 refine Rn.step rfl ?_
      exact k
    repeat refine Rn.step rfl ?_
    refine Rn.br2 rfl (by show ¬ v 4 ≤ nI l; rw [hv]; exact nle hl (by omega)) ?_
    repeat refine Rn.step rfl ?_
    refine Rn.br rfl (fun h1 => ?_) (fun h1 => ?_)
    · refine Rn.step rfl ?_
      exact fin _ (if_neg (fun q => (npos (by omega)).mpr q h1)).symm
    · have p1 := (npos (by omega)).mp h1
      repeat refine Rn.step rfl ?_
      refine Rn.ald ((m - 1) * 8 + l) rfl (ix_beg p1) (by omega) (by decide) ?_
      refine Rn.step rfl ?_
      exact fin _ (if_pos p1).symm
  · repeat refine Rn.step rfl ?_
    refine Rn.br1 rfl (by show v 4 ≤ nI n; rw [hv]; exact Int32.le_refl _) ?_
    subst hs0
    exact Rn.ret rfl
theorem r_beg2 {n m : Nat} (hn : n ≤ 8) (hv : v 4 = nI n) (hm : m < 24) : Rn E 0 mX0_beginMinute (0, [(0, .ref 31), (1, .ref 3), (2, .int (nI m))], [], wX a v t r) (none, wX (va_up (va_up a 32 (bmF n m (a 32, a 33)).1) 33 (bmF n m (a 32, a 33)).2) v t r) := by
  iterate 2 refine Rn.step rfl ?_
  refine Rn.lp (σ := f2) (cfg := fun l s => (2, [(3, .int (nI l)), (0, .ref 31), (1, .ref 3), (2, .int (nI m))], [], wX (va_up (va_up a 32 s.1) 33 s.2) v t r)) (f := fun l s => (upd s.1 (m * 8 + l) (if 0 < m then s.1 ((m - 1) * 8 + l) else -1), upd s.2 (m * 8 + l) 0)) (n := n) (fun _ _ => True) (fun l s hl _ => ⟨trivial, fun k => ?_⟩) n 0 (a 32, a 33) (by omega) trivial (fun s0 hs0 _ => ?_)
  · rw [nI_succ] at k
    have fin : ∀ z : Int32, z = (if 0 < m then s.1 ((m - 1) * 8 + l) else -1) → Rn E 0 mX0_beginMinute (41, [(3, .int (nI l)), (0, .ref 31), (1, .ref 3), (2, .int (nI m))], [.int z, .int (nI m * 8 + nI l), .ref 32], wX (va_up (va_up a 32 s.1) 33 s.2) v t r) (none, wX (va_up (va_up a 32 (bmF n m (a 32, a 33)).1) 33 (bmF n m (a 32, a 33)).2) v t r) := by
      intro z hz
      rw [← hz] at k
      refine Rn.ast (m * 8 + l) rfl (ix_ma m 8 l) (by omega) (by decide) (h3 := wX (va_up (va_up a 32 (upd s.1 (m * 8 + l) z)) 33 s.2) v t r) rfl ?_
      repeat refine Rn.step rfl ?_
      refine Rn.ast (m * 8 + l) rfl (ix_ma m 8 l) (by omega) (by decide) (h3 := wX (va_up (va_up a 32 (upd s.1 (m * 8 + l) z)) 33 (upd s.2 (m * 8 + l) 0)) v t r) rfl ?_
      iterate 2 refine Rn.step rfl ?_
      exact k
    repeat refine Rn.step rfl ?_
    refine Rn.br2 rfl (by show ¬ v 4 ≤ nI l; rw [hv]; exact nle hl (by omega)) ?_
    repeat refine Rn.step rfl ?_
    refine Rn.br rfl (fun h1 => ?_) (fun h1 => ?_)
    · refine Rn.step rfl ?_
      exact fin _ (if_neg (fun q => (npos (by omega)).mpr q h1)).symm
    · have p1 := (npos (by omega)).mp h1
      repeat refine Rn.step rfl ?_
      refine Rn.ald ((m - 1) * 8 + l) rfl (ix_beg p1) (by omega) (by decide) ?_
      refine Rn.step rfl ?_
      exact fin _ (if_pos p1).symm
  · repeat refine Rn.step rfl ?_
    refine Rn.br1 rfl (by show v 4 ≤ nI n; rw [hv]; exact Int32.le_refl _) ?_
    subst hs0
    exact Rn.ret rfl
theorem r_mov1 {m l hd : Nat} (hm : m < 24) (hl : l < 8) (hh : hd < 16) (bar : Int32) (hH : a 23 (m * 8 + l) = nI hd) : Rn E 0 mX0_move (0, [(0, .ref 22), (1, .ref 3), (2, .ref 18), (3, .int (nI m)), (4, .int (nI l)), (5, .int bar)], [], wX a v t r) (some (.int (nI (mvF (decide (bt (a 25 m) l)) (fun h => a 19 (m * 16 + h)) (a 7 l) (fun h => decide (¬ nI (h + 1) < bar)) (a 4 hd + ib (bt (a 25 m) l)) 17 0 hd).1)), wX (va_up (va_up a 23 (upd (a 23) (m * 8 + l) (nI (mvF (decide (bt (a 25 m) l)) (fun h => a 19 (m * 16 + h)) (a 7 l) (fun h => decide (¬ nI (h + 1) < bar)) (a 4 hd + ib (bt (a 25 m) l)) 17 0 hd).1))) 24 (if (mvF (decide (bt (a 25 m) l)) (fun h => a 19 (m * 16 + h)) (a 7 l) (fun h => decide (¬ nI (h + 1) < bar)) (a 4 hd + ib (bt (a 25 m) l)) 17 0 hd).2 = 0 then a 24 else upd (a 24) (m * 8 + l) (nI (mvF (decide (bt (a 25 m) l)) (fun h => a 19 (m * 16 + h)) (a 7 l) (fun h => decide (¬ nI (h + 1) < bar)) (a 4 hd + ib (bt (a 25 m) l)) 17 0 hd).2))) v t r) := by
  obtain ⟨z, hz⟩ : ∃ z, z = ib (bt (a 25 m) l) := ⟨_, rfl⟩
  have e144 : ∀ (h : Nat) (S' : Nat → Int32) (L' : List (Nat × Value)), iLget L' 0 = some (.ref 22) → iLget L' 6 = some (.int (nI (m * 8 + l))) → iLget L' 7 = some (.int (nI h)) → Rn E 0 mX0_move (144, L', [], wX (va_up a 24 S') v t r) (some (.int (nI h)), wX (va_up (va_up a 23 (upd (a 23) (m * 8 + l) (nI h))) 24 S') v t r) := by
    intro h S' L' g0 g6 g7
    refine Rn.sub (L' := [(0, .ref 22), (6, .int (nI (m * 8 + l))), (7, .int (nI h))]) ⟨g0, g6, g7, trivial⟩ ?_
    repeat refine Rn.step rfl ?_
    refine Rn.ast (m * 8 + l) rfl rfl (by omega) (by decide) (h3 := wX (va_up (va_up a 23 (upd (a 23) (m * 8 + l) (nI h))) 24 S') v t r) rfl ?_
    repeat refine Rn.step rfl ?_
    exact Rn.ret rfl
  have key : ∀ (steps : Int32) (f k h : Nat), h ≤ 16 → 17 ≤ f + h → k ≤ 100 - f → f ≤ 17 → Rn E 0 mX0_move (63, [(10, .int (nI k)), (9, .int steps), (8, .int z), (7, .int (nI h)), (6, .int (nI (m * 8 + l))), (0, .ref 22), (1, .ref 3), (2, .ref 18), (3, .int (nI m)), (4, .int (nI l)), (5, .int bar)], [], wX a v t r) (some (.int (nI (mvF (decide (bt (a 25 m) l)) (fun h => a 19 (m * 16 + h)) (a 7 l) (fun h => decide (¬ nI (h + 1) < bar)) steps f k h).1)), wX (va_up (va_up a 23 (upd (a 23) (m * 8 + l) (nI (mvF (decide (bt (a 25 m) l)) (fun h => a 19 (m * 16 + h)) (a 7 l) (fun h => decide (¬ nI (h + 1) < bar)) steps f k h).1))) 24 (if (mvF (decide (bt (a 25 m) l)) (fun h => a 19 (m * 16 + h)) (a 7 l) (fun h => decide (¬ nI (h + 1) < bar)) steps f k h).2 = 0 then a 24 else upd (a 24) (m * 8 + l) (nI (mvF (decide (bt (a 25 m) l)) (fun h => a 19 (m * 16 + h)) (a 7 l) (fun h => decide (¬ nI (h + 1) < bar)) steps f k h).2))) v t r) := by
    intro steps f
    induction f with
    | zero => intro k h q1 q2; omega
    | succ f ih =>
      intro k h q1 q2 q3 q4
      unfold mvF
      repeat refine Rn.step rfl ?_
      refine Rn.br rfl (fun h1 => ?_) (fun h1 => ?_)
      · rw [if_pos (Or.inl h1)]
        exact e144 h (a 24) _ rfl rfl rfl
      repeat refine Rn.step rfl ?_
      refine Rn.br rfl (fun h2 => ?_) (fun h2 => ?_)
      · rw [if_pos (Or.inr ((nI_leI (a := 16) (by decide) (by omega)).mp h2))]
        exact e144 h (a 24) _ rfl rfl rfl
      have hlt : h < 16 := by
        rcases Nat.lt_or_ge h 16 with q | q
        · exact q
        · exact absurd (nI_le q (by omega)) h2
      rw [if_neg (fun q => q.elim h1 (fun q => by omega))]
      have s115 : ¬ (decide (bt (a 25 m) l) = false ∧ a 19 (m * 16 + h) < a 7 l) → Rn E 0 mX0_move (115, [(10, .int (nI k)), (9, .int steps), (8, .int z), (7, .int (nI h)), (6, .int (nI (m * 8 + l))), (0, .ref 22), (1, .ref 3), (2, .ref 18), (3, .int (nI m)), (4, .int (nI l)), (5, .int bar)], [], wX a v t r) (some (.int (nI (if decide (bt (a 25 m) l) = false ∧ a 19 (m * 16 + h) < a 7 l then (h, 1) else if decide (¬ nI (h + 1) < bar) = true then (h, 2) else mvF (decide (bt (a 25 m) l)) (fun h => a 19 (m * 16 + h)) (a 7 l) (fun h => decide (¬ nI (h + 1) < bar)) steps f (k + 1) (h + 1)).1)), wX (va_up (va_up a 23 (upd (a 23) (m * 8 + l) (nI (if decide (bt (a 25 m) l) = false ∧ a 19 (m * 16 + h) < a 7 l then (h, 1) else if decide (¬ nI (h + 1) < bar) = true then (h, 2) else mvF (decide (bt (a 25 m) l)) (fun h => a 19 (m * 16 + h)) (a 7 l) (fun h => decide (¬ nI (h + 1) < bar)) steps f (k + 1) (h + 1)).1))) 24 (if (if decide (bt (a 25 m) l) = false ∧ a 19 (m * 16 + h) < a 7 l then (h, 1) else if decide (¬ nI (h + 1) < bar) = true then (h, 2) else mvF (decide (bt (a 25 m) l)) (fun h => a 19 (m * 16 + h)) (a 7 l) (fun h => decide (¬ nI (h + 1) < bar)) steps f (k + 1) (h + 1)).2 = 0 then a 24 else upd (a 24) (m * 8 + l) (nI (if decide (bt (a 25 m) l) = false ∧ a 19 (m * 16 + h) < a 7 l then (h, 1) else if decide (¬ nI (h + 1) < bar) = true then (h, 2) else mvF (decide (bt (a 25 m) l)) (fun h => a 19 (m * 16 + h)) (a 7 l) (fun h => decide (¬ nI (h + 1) < bar)) steps f (k + 1) (h + 1)).2))) v t r) := by
        intro hn
        rw [if_neg hn]
        iterate 3 refine Rn.step rfl ?_
        refine Rn.top (nI_1 h) ?_
        refine Rn.step rfl ?_
        refine Rn.br rfl (fun h3 => ?_) (fun h3 => ?_)
        · rw [if_neg (by simp [h3])]
          iterate 3 refine Rn.step rfl ?_
          have k3 := ih (k + 1) (h + 1) (by omega) (by omega) (by omega) (by omega)
          rw [nI_succ, nI_succ] at k3
          exact Rn.sub (by exact ⟨rfl, rfl, rfl, rfl, rfl, rfl, rfl, rfl, rfl, rfl, rfl, trivial⟩) k3
        · rw [if_pos (by simp [h3])]
          repeat refine Rn.step rfl ?_
          refine Rn.ast (m * 8 + l) rfl rfl (by omega) (by decide) (h3 := wX (va_up a 24 (upd (a 24) (m * 8 + l) 2)) v t r) rfl ?_
          refine Rn.step rfl ?_
          exact e144 h (upd (a 24) (m * 8 + l) 2) _ rfl rfl rfl
      repeat refine Rn.step rfl ?_
      refine Rn.br rfl (fun h3 => ?_) (fun h3 => ?_)
      · exact s115 (fun q => (of_decide_eq_false q.1) (ib_ne0.mp (hz ▸ h3)))
      · repeat refine Rn.step rfl ?_
        refine Rn.ald (m * 16 + h) rfl (ix_ma m 16 h) (by omega) (by decide) ?_
        repeat refine Rn.step rfl ?_
        refine Rn.ald l rfl rfl hl (by decide) ?_
        refine Rn.br rfl (fun h4 => ?_) (fun h4 => ?_)
        · exact s115 (fun q => absurd q.2 (Int32.not_lt.mpr h4))
        · rw [if_pos ⟨decide_eq_false (ib_eq0.mp (hz ▸ Decidable.not_not.mp h3)), Int32.not_le.mp h4⟩]
          repeat refine Rn.step rfl ?_
          refine Rn.ast (m * 8 + l) rfl rfl (by omega) (by decide) (h3 := wX (va_up a 24 (upd (a 24) (m * 8 + l) 1)) v t r) rfl ?_
          refine Rn.step rfl ?_
          exact e144 h (upd (a 24) (m * 8 + l) 1) _ rfl rfl rfl
  iterate 5 refine Rn.step rfl ?_
  refine Rn.top (ix_ma m 8 l) ?_
  repeat refine Rn.step rfl ?_
  refine Rn.ald (m * 8 + l) rfl rfl (by omega) (by decide) ?_
  refine Rn.top hH ?_
  repeat refine Rn.step rfl ?_
  refine Rn.ald m rfl rfl hm (by decide) ?_
  repeat refine Rn.step rfl ?_
  have st38 : ∀ y : Int32, y = z → Rn E 0 mX0_move (38, [(7, .int (nI hd)), (6, .int (nI (m * 8 + l))), (0, .ref 22), (1, .ref 3), (2, .ref 18), (3, .int (nI m)), (4, .int (nI l)), (5, .int bar)], [.int y], wX a v t r) (some (.int (nI (mvF (decide (bt (a 25 m) l)) (fun h => a 19 (m * 16 + h)) (a 7 l) (fun h => decide (¬ nI (h + 1) < bar)) (a 4 hd + ib (bt (a 25 m) l)) 17 0 hd).1)), wX (va_up (va_up a 23 (upd (a 23) (m * 8 + l) (nI (mvF (decide (bt (a 25 m) l)) (fun h => a 19 (m * 16 + h)) (a 7 l) (fun h => decide (¬ nI (h + 1) < bar)) (a 4 hd + ib (bt (a 25 m) l)) 17 0 hd).1))) 24 (if (mvF (decide (bt (a 25 m) l)) (fun h => a 19 (m * 16 + h)) (a 7 l) (fun h => decide (¬ nI (h + 1) < bar)) (a 4 hd + ib (bt (a 25 m) l)) 17 0 hd).2 = 0 then a 24 else upd (a 24) (m * 8 + l) (nI (mvF (decide (bt (a 25 m) l)) (fun h => a 19 (m * 16 + h)) (a 7 l) (fun h => decide (¬ nI (h + 1) < bar)) (a 4 hd + ib (bt (a 25 m) l)) 17 0 hd).2))) v t r) := by
    intro y hy
    subst hy
    have st57 : ∀ y2 : Int32, y2 = y → Rn E 0 mX0_move (57, [(8, .int y), (7, .int (nI hd)), (6, .int (nI (m * 8 + l))), (0, .ref 22), (1, .ref 3), (2, .ref 18), (3, .int (nI m)), (4, .int (nI l)), (5, .int bar)], [.int y2, .int (a 4 hd)], wX a v t r) (some (.int (nI (mvF (decide (bt (a 25 m) l)) (fun h => a 19 (m * 16 + h)) (a 7 l) (fun h => decide (¬ nI (h + 1) < bar)) (a 4 hd + ib (bt (a 25 m) l)) 17 0 hd).1)), wX (va_up (va_up a 23 (upd (a 23) (m * 8 + l) (nI (mvF (decide (bt (a 25 m) l)) (fun h => a 19 (m * 16 + h)) (a 7 l) (fun h => decide (¬ nI (h + 1) < bar)) (a 4 hd + ib (bt (a 25 m) l)) 17 0 hd).1))) 24 (if (mvF (decide (bt (a 25 m) l)) (fun h => a 19 (m * 16 + h)) (a 7 l) (fun h => decide (¬ nI (h + 1) < bar)) (a 4 hd + ib (bt (a 25 m) l)) 17 0 hd).2 = 0 then a 24 else upd (a 24) (m * 8 + l) (nI (mvF (decide (bt (a 25 m) l)) (fun h => a 19 (m * 16 + h)) (a 7 l) (fun h => decide (¬ nI (h + 1) < bar)) (a 4 hd + ib (bt (a 25 m) l)) 17 0 hd).2))) v t r) := by
      intro y2 hy2
      subst hy2
      rw [← hz]
      iterate 4 refine Rn.step rfl ?_
      exact key _ 17 0 hd (by omega) (by omega) (by omega) (by omega)
    repeat refine Rn.step rfl ?_
    refine Rn.ald hd rfl rfl hh (by decide) ?_
    repeat refine Rn.step rfl ?_
    refine Rn.br rfl (fun h1 => ?_) (fun h1 => ?_)
    · refine Rn.step rfl ?_
      exact st57 0 h1.symm
    · iterate 2 refine Rn.step rfl ?_
      refine st57 1 ?_
      rcases ib_01 (bt (a 25 m) l) with q | q
      · exact absurd (hz.trans q) h1
      · exact (hz.trans q).symm
  refine Rn.br rfl (fun h1 => ?_) (fun h1 => ?_)
  · refine Rn.step rfl ?_
    exact st38 0 (by rw [hz, ib_f h1])
  · iterate 2 refine Rn.step rfl ?_
    exact st38 1 (by rw [hz, ib_t (Decidable.not_not.mp h1)])
theorem r_mov2 {m l hd : Nat} (hm : m < 24) (hl : l < 8) (hh : hd < 16) (bar : Int32) (hH : a 32 (m * 8 + l) = nI hd) : Rn E 0 mX0_move (0, [(0, .ref 31), (1, .ref 3), (2, .ref 18), (3, .int (nI m)), (4, .int (nI l)), (5, .int bar)], [], wX a v t r) (some (.int (nI (mvF (decide (bt (a 34 m) l)) (fun h => a 19 (m * 16 + h)) (a 7 l) (fun h => decide (¬ nI (h + 1) < bar)) (a 4 hd + ib (bt (a 34 m) l)) 17 0 hd).1)), wX (va_up (va_up a 32 (upd (a 32) (m * 8 + l) (nI (mvF (decide (bt (a 34 m) l)) (fun h => a 19 (m * 16 + h)) (a 7 l) (fun h => decide (¬ nI (h + 1) < bar)) (a 4 hd + ib (bt (a 34 m) l)) 17 0 hd).1))) 33 (if (mvF (decide (bt (a 34 m) l)) (fun h => a 19 (m * 16 + h)) (a 7 l) (fun h => decide (¬ nI (h + 1) < bar)) (a 4 hd + ib (bt (a 34 m) l)) 17 0 hd).2 = 0 then a 33 else upd (a 33) (m * 8 + l) (nI (mvF (decide (bt (a 34 m) l)) (fun h => a 19 (m * 16 + h)) (a 7 l) (fun h => decide (¬ nI (h + 1) < bar)) (a 4 hd + ib (bt (a 34 m) l)) 17 0 hd).2))) v t r) := by
  obtain ⟨z, hz⟩ : ∃ z, z = ib (bt (a 34 m) l) := ⟨_, rfl⟩
  have e144 : ∀ (h : Nat) (S' : Nat → Int32) (L' : List (Nat × Value)), iLget L' 0 = some (.ref 31) → iLget L' 6 = some (.int (nI (m * 8 + l))) → iLget L' 7 = some (.int (nI h)) → Rn E 0 mX0_move (144, L', [], wX (va_up a 33 S') v t r) (some (.int (nI h)), wX (va_up (va_up a 32 (upd (a 32) (m * 8 + l) (nI h))) 33 S') v t r) := by
    intro h S' L' g0 g6 g7
    refine Rn.sub (L' := [(0, .ref 31), (6, .int (nI (m * 8 + l))), (7, .int (nI h))]) ⟨g0, g6, g7, trivial⟩ ?_
    repeat refine Rn.step rfl ?_
    refine Rn.ast (m * 8 + l) rfl rfl (by omega) (by decide) (h3 := wX (va_up (va_up a 32 (upd (a 32) (m * 8 + l) (nI h))) 33 S') v t r) rfl ?_
    repeat refine Rn.step rfl ?_
    exact Rn.ret rfl
  have key : ∀ (steps : Int32) (f k h : Nat), h ≤ 16 → 17 ≤ f + h → k ≤ 100 - f → f ≤ 17 → Rn E 0 mX0_move (63, [(10, .int (nI k)), (9, .int steps), (8, .int z), (7, .int (nI h)), (6, .int (nI (m * 8 + l))), (0, .ref 31), (1, .ref 3), (2, .ref 18), (3, .int (nI m)), (4, .int (nI l)), (5, .int bar)], [], wX a v t r) (some (.int (nI (mvF (decide (bt (a 34 m) l)) (fun h => a 19 (m * 16 + h)) (a 7 l) (fun h => decide (¬ nI (h + 1) < bar)) steps f k h).1)), wX (va_up (va_up a 32 (upd (a 32) (m * 8 + l) (nI (mvF (decide (bt (a 34 m) l)) (fun h => a 19 (m * 16 + h)) (a 7 l) (fun h => decide (¬ nI (h + 1) < bar)) steps f k h).1))) 33 (if (mvF (decide (bt (a 34 m) l)) (fun h => a 19 (m * 16 + h)) (a 7 l) (fun h => decide (¬ nI (h + 1) < bar)) steps f k h).2 = 0 then a 33 else upd (a 33) (m * 8 + l) (nI (mvF (decide (bt (a 34 m) l)) (fun h => a 19 (m * 16 + h)) (a 7 l) (fun h => decide (¬ nI (h + 1) < bar)) steps f k h).2))) v t r) := by
    intro steps f
    induction f with
    | zero => intro k h q1 q2; omega
    | succ f ih =>
      intro k h q1 q2 q3 q4
      unfold mvF
      repeat refine Rn.step rfl ?_
      refine Rn.br rfl (fun h1 => ?_) (fun h1 => ?_)
      · rw [if_pos (Or.inl h1)]
        exact e144 h (a 33) _ rfl rfl rfl
      repeat refine Rn.step rfl ?_
      refine Rn.br rfl (fun h2 => ?_) (fun h2 => ?_)
      · rw [if_pos (Or.inr ((nI_leI (a := 16) (by decide) (by omega)).mp h2))]
        exact e144 h (a 33) _ rfl rfl rfl
      have hlt : h < 16 := by
        rcases Nat.lt_or_ge h 16 with q | q
        · exact q
        · exact absurd (nI_le q (by omega)) h2
      rw [if_neg (fun q => q.elim h1 (fun q => by omega))]
      have s115 : ¬ (decide (bt (a 34 m) l) = false ∧ a 19 (m * 16 + h) < a 7 l) → Rn E 0 mX0_move (115, [(10, .int (nI k)), (9, .int steps), (8, .int z), (7, .int (nI h)), (6, .int (nI (m * 8 + l))), (0, .ref 31), (1, .ref 3), (2, .ref 18), (3, .int (nI m)), (4, .int (nI l)), (5, .int bar)], [], wX a v t r) (some (.int (nI (if decide (bt (a 34 m) l) = false ∧ a 19 (m * 16 + h) < a 7 l then (h, 1) else if decide (¬ nI (h + 1) < bar) = true then (h, 2) else mvF (decide (bt (a 34 m) l)) (fun h => a 19 (m * 16 + h)) (a 7 l) (fun h => decide (¬ nI (h + 1) < bar)) steps f (k + 1) (h + 1)).1)), wX (va_up (va_up a 32 (upd (a 32) (m * 8 + l) (nI (if decide (bt (a 34 m) l) = false ∧ a 19 (m * 16 + h) < a 7 l then (h, 1) else if decide (¬ nI (h + 1) < bar) = true then (h, 2) else mvF (decide (bt (a 34 m) l)) (fun h => a 19 (m * 16 + h)) (a 7 l) (fun h => decide (¬ nI (h + 1) < bar)) steps f (k + 1) (h + 1)).1))) 33 (if (if decide (bt (a 34 m) l) = false ∧ a 19 (m * 16 + h) < a 7 l then (h, 1) else if decide (¬ nI (h + 1) < bar) = true then (h, 2) else mvF (decide (bt (a 34 m) l)) (fun h => a 19 (m * 16 + h)) (a 7 l) (fun h => decide (¬ nI (h + 1) < bar)) steps f (k + 1) (h + 1)).2 = 0 then a 33 else upd (a 33) (m * 8 + l) (nI (if decide (bt (a 34 m) l) = false ∧ a 19 (m * 16 + h) < a 7 l then (h, 1) else if decide (¬ nI (h + 1) < bar) = true then (h, 2) else mvF (decide (bt (a 34 m) l)) (fun h => a 19 (m * 16 + h)) (a 7 l) (fun h => decide (¬ nI (h + 1) < bar)) steps f (k + 1) (h + 1)).2))) v t r) := by
        intro hn
        rw [if_neg hn]
        iterate 3 refine Rn.step rfl ?_
        refine Rn.top (nI_1 h) ?_
        refine Rn.step rfl ?_
        refine Rn.br rfl (fun h3 => ?_) (fun h3 => ?_)
        · rw [if_neg (by simp [h3])]
          iterate 3 refine Rn.step rfl ?_
          have k3 := ih (k + 1) (h + 1) (by omega) (by omega) (by omega) (by omega)
          rw [nI_succ, nI_succ] at k3
          exact Rn.sub (by exact ⟨rfl, rfl, rfl, rfl, rfl, rfl, rfl, rfl, rfl, rfl, rfl, trivial⟩) k3
        · rw [if_pos (by simp [h3])]
          repeat refine Rn.step rfl ?_
          refine Rn.ast (m * 8 + l) rfl rfl (by omega) (by decide) (h3 := wX (va_up a 33 (upd (a 33) (m * 8 + l) 2)) v t r) rfl ?_
          refine Rn.step rfl ?_
          exact e144 h (upd (a 33) (m * 8 + l) 2) _ rfl rfl rfl
      repeat refine Rn.step rfl ?_
      refine Rn.br rfl (fun h3 => ?_) (fun h3 => ?_)
      · exact s115 (fun q => (of_decide_eq_false q.1) (ib_ne0.mp (hz ▸ h3)))
      · repeat refine Rn.step rfl ?_
        refine Rn.ald (m * 16 + h) rfl (ix_ma m 16 h) (by omega) (by decide) ?_
        repeat refine Rn.step rfl ?_
        refine Rn.ald l rfl rfl hl (by decide) ?_
        refine Rn.br rfl (fun h4 => ?_) (fun h4 => ?_)
        · exact s115 (fun q => absurd q.2 (Int32.not_lt.mpr h4))
        · rw [if_pos ⟨decide_eq_false (ib_eq0.mp (hz ▸ Decidable.not_not.mp h3)), Int32.not_le.mp h4⟩]
          repeat refine Rn.step rfl ?_
          refine Rn.ast (m * 8 + l) rfl rfl (by omega) (by decide) (h3 := wX (va_up a 33 (upd (a 33) (m * 8 + l) 1)) v t r) rfl ?_
          refine Rn.step rfl ?_
          exact e144 h (upd (a 33) (m * 8 + l) 1) _ rfl rfl rfl
  iterate 5 refine Rn.step rfl ?_
  refine Rn.top (ix_ma m 8 l) ?_
  repeat refine Rn.step rfl ?_
  refine Rn.ald (m * 8 + l) rfl rfl (by omega) (by decide) ?_
  refine Rn.top hH ?_
  repeat refine Rn.step rfl ?_
  refine Rn.ald m rfl rfl hm (by decide) ?_
  repeat refine Rn.step rfl ?_
  have st38 : ∀ y : Int32, y = z → Rn E 0 mX0_move (38, [(7, .int (nI hd)), (6, .int (nI (m * 8 + l))), (0, .ref 31), (1, .ref 3), (2, .ref 18), (3, .int (nI m)), (4, .int (nI l)), (5, .int bar)], [.int y], wX a v t r) (some (.int (nI (mvF (decide (bt (a 34 m) l)) (fun h => a 19 (m * 16 + h)) (a 7 l) (fun h => decide (¬ nI (h + 1) < bar)) (a 4 hd + ib (bt (a 34 m) l)) 17 0 hd).1)), wX (va_up (va_up a 32 (upd (a 32) (m * 8 + l) (nI (mvF (decide (bt (a 34 m) l)) (fun h => a 19 (m * 16 + h)) (a 7 l) (fun h => decide (¬ nI (h + 1) < bar)) (a 4 hd + ib (bt (a 34 m) l)) 17 0 hd).1))) 33 (if (mvF (decide (bt (a 34 m) l)) (fun h => a 19 (m * 16 + h)) (a 7 l) (fun h => decide (¬ nI (h + 1) < bar)) (a 4 hd + ib (bt (a 34 m) l)) 17 0 hd).2 = 0 then a 33 else upd (a 33) (m * 8 + l) (nI (mvF (decide (bt (a 34 m) l)) (fun h => a 19 (m * 16 + h)) (a 7 l) (fun h => decide (¬ nI (h + 1) < bar)) (a 4 hd + ib (bt (a 34 m) l)) 17 0 hd).2))) v t r) := by
    intro y hy
    subst hy
    have st57 : ∀ y2 : Int32, y2 = y → Rn E 0 mX0_move (57, [(8, .int y), (7, .int (nI hd)), (6, .int (nI (m * 8 + l))), (0, .ref 31), (1, .ref 3), (2, .ref 18), (3, .int (nI m)), (4, .int (nI l)), (5, .int bar)], [.int y2, .int (a 4 hd)], wX a v t r) (some (.int (nI (mvF (decide (bt (a 34 m) l)) (fun h => a 19 (m * 16 + h)) (a 7 l) (fun h => decide (¬ nI (h + 1) < bar)) (a 4 hd + ib (bt (a 34 m) l)) 17 0 hd).1)), wX (va_up (va_up a 32 (upd (a 32) (m * 8 + l) (nI (mvF (decide (bt (a 34 m) l)) (fun h => a 19 (m * 16 + h)) (a 7 l) (fun h => decide (¬ nI (h + 1) < bar)) (a 4 hd + ib (bt (a 34 m) l)) 17 0 hd).1))) 33 (if (mvF (decide (bt (a 34 m) l)) (fun h => a 19 (m * 16 + h)) (a 7 l) (fun h => decide (¬ nI (h + 1) < bar)) (a 4 hd + ib (bt (a 34 m) l)) 17 0 hd).2 = 0 then a 33 else upd (a 33) (m * 8 + l) (nI (mvF (decide (bt (a 34 m) l)) (fun h => a 19 (m * 16 + h)) (a 7 l) (fun h => decide (¬ nI (h + 1) < bar)) (a 4 hd + ib (bt (a 34 m) l)) 17 0 hd).2))) v t r) := by
      intro y2 hy2
      subst hy2
      rw [← hz]
      iterate 4 refine Rn.step rfl ?_
      exact key _ 17 0 hd (by omega) (by omega) (by omega) (by omega)
    repeat refine Rn.step rfl ?_
    refine Rn.ald hd rfl rfl hh (by decide) ?_
    repeat refine Rn.step rfl ?_
    refine Rn.br rfl (fun h1 => ?_) (fun h1 => ?_)
    · refine Rn.step rfl ?_
      exact st57 0 h1.symm
    · iterate 2 refine Rn.step rfl ?_
      refine st57 1 ?_
      rcases ib_01 (bt (a 34 m) l) with q | q
      · exact absurd (hz.trans q) h1
      · exact (hz.trans q).symm
  refine Rn.br rfl (fun h1 => ?_) (fun h1 => ?_)
  · refine Rn.step rfl ?_
    exact st38 0 (by rw [hz, ib_f h1])
  · iterate 2 refine Rn.step rfl ?_
    exact st38 1 (by rw [hz, ib_t (Decidable.not_not.mp h1)])
theorem r_mov3 {m l hd : Nat} (hm : m < 24) (hl : l < 8) (hh : hd < 16) (bar : Int32) (hH : a 32 (m * 8 + l) = nI hd) : Rn E 0 mX0_move (0, [(0, .ref 31), (1, .ref 3), (2, .ref 27), (3, .int (nI m)), (4, .int (nI l)), (5, .int bar)], [], wX a v t r) (some (.int (nI (mvF (decide (bt (a 34 m) l)) (fun h => a 28 (m * 16 + h)) (a 7 l) (fun h => decide (¬ nI (h + 1) < bar)) (a 4 hd + ib (bt (a 34 m) l)) 17 0 hd).1)), wX (va_up (va_up a 32 (upd (a 32) (m * 8 + l) (nI (mvF (decide (bt (a 34 m) l)) (fun h => a 28 (m * 16 + h)) (a 7 l) (fun h => decide (¬ nI (h + 1) < bar)) (a 4 hd + ib (bt (a 34 m) l)) 17 0 hd).1))) 33 (if (mvF (decide (bt (a 34 m) l)) (fun h => a 28 (m * 16 + h)) (a 7 l) (fun h => decide (¬ nI (h + 1) < bar)) (a 4 hd + ib (bt (a 34 m) l)) 17 0 hd).2 = 0 then a 33 else upd (a 33) (m * 8 + l) (nI (mvF (decide (bt (a 34 m) l)) (fun h => a 28 (m * 16 + h)) (a 7 l) (fun h => decide (¬ nI (h + 1) < bar)) (a 4 hd + ib (bt (a 34 m) l)) 17 0 hd).2))) v t r) := by
  obtain ⟨z, hz⟩ : ∃ z, z = ib (bt (a 34 m) l) := ⟨_, rfl⟩
  have e144 : ∀ (h : Nat) (S' : Nat → Int32) (L' : List (Nat × Value)), iLget L' 0 = some (.ref 31) → iLget L' 6 = some (.int (nI (m * 8 + l))) → iLget L' 7 = some (.int (nI h)) → Rn E 0 mX0_move (144, L', [], wX (va_up a 33 S') v t r) (some (.int (nI h)), wX (va_up (va_up a 32 (upd (a 32) (m * 8 + l) (nI h))) 33 S') v t r) := by
    intro h S' L' g0 g6 g7
    refine Rn.sub (L' := [(0, .ref 31), (6, .int (nI (m * 8 + l))), (7, .int (nI h))]) ⟨g0, g6, g7, trivial⟩ ?_
    repeat refine Rn.step rfl ?_
    refine Rn.ast (m * 8 + l) rfl rfl (by omega) (by decide) (h3 := wX (va_up (va_up a 32 (upd (a 32) (m * 8 + l) (nI h))) 33 S') v t r) rfl ?_
    repeat refine Rn.step rfl ?_
    exact Rn.ret rfl
  have key : ∀ (steps : Int32) (f k h : Nat), h ≤ 16 → 17 ≤ f + h → k ≤ 100 - f → f ≤ 17 → Rn E 0 mX0_move (63, [(10, .int (nI k)), (9, .int steps), (8, .int z), (7, .int (nI h)), (6, .int (nI (m * 8 + l))), (0, .ref 31), (1, .ref 3), (2, .ref 27), (3, .int (nI m)), (4, .int (nI l)), (5, .int bar)], [], wX a v t r) (some (.int (nI (mvF (decide (bt (a 34 m) l)) (fun h => a 28 (m * 16 + h)) (a 7 l) (fun h => decide (¬ nI (h + 1) < bar)) steps f k h).1)), wX (va_up (va_up a 32 (upd (a 32) (m * 8 + l) (nI (mvF (decide (bt (a 34 m) l)) (fun h => a 28 (m * 16 + h)) (a 7 l) (fun h => decide (¬ nI (h + 1) < bar)) steps f k h).1))) 33 (if (mvF (decide (bt (a 34 m) l)) (fun h => a 28 (m * 16 + h)) (a 7 l) (fun h => decide (¬ nI (h + 1) < bar)) steps f k h).2 = 0 then a 33 else upd (a 33) (m * 8 + l) (nI (mvF (decide (bt (a 34 m) l)) (fun h => a 28 (m * 16 + h)) (a 7 l) (fun h => decide (¬ nI (h + 1) < bar)) steps f k h).2))) v t r) := by
    intro steps f
    induction f with
    | zero => intro k h q1 q2; omega
    | succ f ih =>
      intro k h q1 q2 q3 q4
      unfold mvF
      repeat refine Rn.step rfl ?_
      refine Rn.br rfl (fun h1 => ?_) (fun h1 => ?_)
      · rw [if_pos (Or.inl h1)]
        exact e144 h (a 33) _ rfl rfl rfl
      repeat refine Rn.step rfl ?_
      refine Rn.br rfl (fun h2 => ?_) (fun h2 => ?_)
      · rw [if_pos (Or.inr ((nI_leI (a := 16) (by decide) (by omega)).mp h2))]
        exact e144 h (a 33) _ rfl rfl rfl
      have hlt : h < 16 := by
        rcases Nat.lt_or_ge h 16 with q | q
        · exact q
        · exact absurd (nI_le q (by omega)) h2
      rw [if_neg (fun q => q.elim h1 (fun q => by omega))]
      have s115 : ¬ (decide (bt (a 34 m) l) = false ∧ a 28 (m * 16 + h) < a 7 l) → Rn E 0 mX0_move (115, [(10, .int (nI k)), (9, .int steps), (8, .int z), (7, .int (nI h)), (6, .int (nI (m * 8 + l))), (0, .ref 31), (1, .ref 3), (2, .ref 27), (3, .int (nI m)), (4, .int (nI l)), (5, .int bar)], [], wX a v t r) (some (.int (nI (if decide (bt (a 34 m) l) = false ∧ a 28 (m * 16 + h) < a 7 l then (h, 1) else if decide (¬ nI (h + 1) < bar) = true then (h, 2) else mvF (decide (bt (a 34 m) l)) (fun h => a 28 (m * 16 + h)) (a 7 l) (fun h => decide (¬ nI (h + 1) < bar)) steps f (k + 1) (h + 1)).1)), wX (va_up (va_up a 32 (upd (a 32) (m * 8 + l) (nI (if decide (bt (a 34 m) l) = false ∧ a 28 (m * 16 + h) < a 7 l then (h, 1) else if decide (¬ nI (h + 1) < bar) = true then (h, 2) else mvF (decide (bt (a 34 m) l)) (fun h => a 28 (m * 16 + h)) (a 7 l) (fun h => decide (¬ nI (h + 1) < bar)) steps f (k + 1) (h + 1)).1))) 33 (if (if decide (bt (a 34 m) l) = false ∧ a 28 (m * 16 + h) < a 7 l then (h, 1) else if decide (¬ nI (h + 1) < bar) = true then (h, 2) else mvF (decide (bt (a 34 m) l)) (fun h => a 28 (m * 16 + h)) (a 7 l) (fun h => decide (¬ nI (h + 1) < bar)) steps f (k + 1) (h + 1)).2 = 0 then a 33 else upd (a 33) (m * 8 + l) (nI (if decide (bt (a 34 m) l) = false ∧ a 28 (m * 16 + h) < a 7 l then (h, 1) else if decide (¬ nI (h + 1) < bar) = true then (h, 2) else mvF (decide (bt (a 34 m) l)) (fun h => a 28 (m * 16 + h)) (a 7 l) (fun h => decide (¬ nI (h + 1) < bar)) steps f (k + 1) (h + 1)).2))) v t r) := by
        intro hn
        rw [if_neg hn]
        iterate 3 refine Rn.step rfl ?_
        refine Rn.top (nI_1 h) ?_
        refine Rn.step rfl ?_
        refine Rn.br rfl (fun h3 => ?_) (fun h3 => ?_)
        · rw [if_neg (by simp [h3])]
          iterate 3 refine Rn.step rfl ?_
          have k3 := ih (k + 1) (h + 1) (by omega) (by omega) (by omega) (by omega)
          rw [nI_succ, nI_succ] at k3
          exact Rn.sub (by exact ⟨rfl, rfl, rfl, rfl, rfl, rfl, rfl, rfl, rfl, rfl, rfl, trivial⟩) k3
        · rw [if_pos (by simp [h3])]
          repeat refine Rn.step rfl ?_
          refine Rn.ast (m * 8 + l) rfl rfl (by omega) (by decide) (h3 := wX (va_up a 33 (upd (a 33) (m * 8 + l) 2)) v t r) rfl ?_
          refine Rn.step rfl ?_
          exact e144 h (upd (a 33) (m * 8 + l) 2) _ rfl rfl rfl
      repeat refine Rn.step rfl ?_
      refine Rn.br rfl (fun h3 => ?_) (fun h3 => ?_)
      · exact s115 (fun q => (of_decide_eq_false q.1) (ib_ne0.mp (hz ▸ h3)))
      · repeat refine Rn.step rfl ?_
        refine Rn.ald (m * 16 + h) rfl (ix_ma m 16 h) (by omega) (by decide) ?_
        repeat refine Rn.step rfl ?_
        refine Rn.ald l rfl rfl hl (by decide) ?_
        refine Rn.br rfl (fun h4 => ?_) (fun h4 => ?_)
        · exact s115 (fun q => absurd q.2 (Int32.not_lt.mpr h4))
        · rw [if_pos ⟨decide_eq_false (ib_eq0.mp (hz ▸ Decidable.not_not.mp h3)), Int32.not_le.mp h4⟩]
          repeat refine Rn.step rfl ?_
          refine Rn.ast (m * 8 + l) rfl rfl (by omega) (by decide) (h3 := wX (va_up a 33 (upd (a 33) (m * 8 + l) 1)) v t r) rfl ?_
          refine Rn.step rfl ?_
          exact e144 h (upd (a 33) (m * 8 + l) 1) _ rfl rfl rfl
  iterate 5 refine Rn.step rfl ?_
  refine Rn.top (ix_ma m 8 l) ?_
  repeat refine Rn.step rfl ?_
  refine Rn.ald (m * 8 + l) rfl rfl (by omega) (by decide) ?_
  refine Rn.top hH ?_
  repeat refine Rn.step rfl ?_
  refine Rn.ald m rfl rfl hm (by decide) ?_
  repeat refine Rn.step rfl ?_
  have st38 : ∀ y : Int32, y = z → Rn E 0 mX0_move (38, [(7, .int (nI hd)), (6, .int (nI (m * 8 + l))), (0, .ref 31), (1, .ref 3), (2, .ref 27), (3, .int (nI m)), (4, .int (nI l)), (5, .int bar)], [.int y], wX a v t r) (some (.int (nI (mvF (decide (bt (a 34 m) l)) (fun h => a 28 (m * 16 + h)) (a 7 l) (fun h => decide (¬ nI (h + 1) < bar)) (a 4 hd + ib (bt (a 34 m) l)) 17 0 hd).1)), wX (va_up (va_up a 32 (upd (a 32) (m * 8 + l) (nI (mvF (decide (bt (a 34 m) l)) (fun h => a 28 (m * 16 + h)) (a 7 l) (fun h => decide (¬ nI (h + 1) < bar)) (a 4 hd + ib (bt (a 34 m) l)) 17 0 hd).1))) 33 (if (mvF (decide (bt (a 34 m) l)) (fun h => a 28 (m * 16 + h)) (a 7 l) (fun h => decide (¬ nI (h + 1) < bar)) (a 4 hd + ib (bt (a 34 m) l)) 17 0 hd).2 = 0 then a 33 else upd (a 33) (m * 8 + l) (nI (mvF (decide (bt (a 34 m) l)) (fun h => a 28 (m * 16 + h)) (a 7 l) (fun h => decide (¬ nI (h + 1) < bar)) (a 4 hd + ib (bt (a 34 m) l)) 17 0 hd).2))) v t r) := by
    intro y hy
    subst hy
    have st57 : ∀ y2 : Int32, y2 = y → Rn E 0 mX0_move (57, [(8, .int y), (7, .int (nI hd)), (6, .int (nI (m * 8 + l))), (0, .ref 31), (1, .ref 3), (2, .ref 27), (3, .int (nI m)), (4, .int (nI l)), (5, .int bar)], [.int y2, .int (a 4 hd)], wX a v t r) (some (.int (nI (mvF (decide (bt (a 34 m) l)) (fun h => a 28 (m * 16 + h)) (a 7 l) (fun h => decide (¬ nI (h + 1) < bar)) (a 4 hd + ib (bt (a 34 m) l)) 17 0 hd).1)), wX (va_up (va_up a 32 (upd (a 32) (m * 8 + l) (nI (mvF (decide (bt (a 34 m) l)) (fun h => a 28 (m * 16 + h)) (a 7 l) (fun h => decide (¬ nI (h + 1) < bar)) (a 4 hd + ib (bt (a 34 m) l)) 17 0 hd).1))) 33 (if (mvF (decide (bt (a 34 m) l)) (fun h => a 28 (m * 16 + h)) (a 7 l) (fun h => decide (¬ nI (h + 1) < bar)) (a 4 hd + ib (bt (a 34 m) l)) 17 0 hd).2 = 0 then a 33 else upd (a 33) (m * 8 + l) (nI (mvF (decide (bt (a 34 m) l)) (fun h => a 28 (m * 16 + h)) (a 7 l) (fun h => decide (¬ nI (h + 1) < bar)) (a 4 hd + ib (bt (a 34 m) l)) 17 0 hd).2))) v t r) := by
      intro y2 hy2
      subst hy2
      rw [← hz]
      iterate 4 refine Rn.step rfl ?_
      exact key _ 17 0 hd (by omega) (by omega) (by omega) (by omega)
    repeat refine Rn.step rfl ?_
    refine Rn.ald hd rfl rfl hh (by decide) ?_
    repeat refine Rn.step rfl ?_
    refine Rn.br rfl (fun h1 => ?_) (fun h1 => ?_)
    · refine Rn.step rfl ?_
      exact st57 0 h1.symm
    · iterate 2 refine Rn.step rfl ?_
      refine st57 1 ?_
      rcases ib_01 (bt (a 34 m) l) with q | q
      · exact absurd (hz.trans q) h1
      · exact (hz.trans q).symm
  refine Rn.br rfl (fun h1 => ?_) (fun h1 => ?_)
  · refine Rn.step rfl ?_
    exact st38 0 (by rw [hz, ib_f h1])
  · iterate 2 refine Rn.step rfl ?_
    exact st38 1 (by rw [hz, ib_t (Decidable.not_not.mp h1)])
end X6
end
section
section X7
variable {E : iExtT} {a : Nat → Nat → Int32} {v : Nat → Int32} {t : Nat → Nat → Int64} {r : List va_E}
/-- who is put in: the first that waits -/
def piF (m : Nat) (st : Nat → Int32) (z : Nat) (wt : Int32) : Nat → Nat → Option Nat
  | _, 0 => none
  | i, j + 1 => if bt wt i ∧ ¬ nI m < st i ∧ z < 8 then some i else piF m st z wt (i + 1) j
theorem piF_lt {m : Nat} {st : Nat → Int32} {z : Nat} {wt : Int32} : ∀ (j i l : Nat), piF m st z wt i j = some l → l < i + j ∧ z < 8 := by
  intro j
  induction j with
  | zero => intro i l h; cases h
  | succ j ih =>
    intro i l h
    unfold piF at h
    split at h
    · rename_i hc
      cases h
      exact ⟨by omega, hc.2.2⟩
    · have := ih (i + 1) l h
      exact ⟨by omega, this.2⟩
/-- the drive's numbers: heads, states, the line, how many are in it, who waits -/
abbrev dS : Type := (Nat → Int32) × (Nat → Int32) × (Nat → Int32) × Nat × Int32
def pnF (n m : Nat) (st : Nat → Int32) (x : dS) : dS := match piF m st x.2.2.2.1 x.2.2.2.2 0 n with
  | none => x
  | some l => (upd x.1 (m * 8 + l) 0, x.2.1, upd x.2.2.1 x.2.2.2.1 (nI l), x.2.2.2.1 + 1, x.2.2.2.2 &&& (sh1 (nI l) ^^^ -1))
def mx0 (x : Int32) : Int32 := if x < 0 then 0 else x
def mvQ (sl de wl : Nat → Int32) (po : Int32) (m l : Nat) (bar x : Int32) : Nat × Nat := mvF (decide (bt po l)) (fun h => wl (m * 16 + h)) (de l) (fun h => decide (¬ nI (h + 1) < bar)) (sl x.toNatClampNeg + ib (bt po l)) 17 0 x.toNatClampNeg
def lnF (sl de ta wl : Nat → Int32) (po : Int32) (m : Nat) (LN : Nat → Int32) (i : Nat) (x : (Nat → Int32) × (Nat → Int32) × Int32) : (Nat → Int32) × (Nat → Int32) × Int32 :=
  if inB (x.1 (m * 8 + (LN i).toNatClampNeg)) 16 then
    (upd x.1 (m * 8 + (LN i).toNatClampNeg) (nI (mvQ sl de wl po m (LN i).toNatClampNeg x.2.2 (x.1 (m * 8 + (LN i).toNatClampNeg))).1),
     if (mvQ sl de wl po m (LN i).toNatClampNeg x.2.2 (x.1 (m * 8 + (LN i).toNatClampNeg))).2 = 0 then x.2.1 else upd x.2.1 (m * 8 + (LN i).toNatClampNeg) (nI (mvQ sl de wl po m (LN i).toNatClampNeg x.2.2 (x.1 (m * 8 + (LN i).toNatClampNeg))).2),
     if nI (mvQ sl de wl po m (LN i).toNatClampNeg x.2.2 (x.1 (m * 8 + (LN i).toNatClampNeg))).1 = 16 then x.2.2 else mx0 (nI (mvQ sl de wl po m (LN i).toNatClampNeg x.2.2 (x.1 (m * 8 + (LN i).toNatClampNeg))).1 - ta (LN i).toNatClampNeg))
  else x
def mnY (n : Nat) (sl de ta wl po : Nat → Int32) (m : Nat) (x : dS) : (Nat → Int32) × (Nat → Int32) × Int32 := lp (lnF sl de ta wl (po m) m x.2.2.1) 0 x.2.2.2.1 ((bmF n m (x.1, x.2.1)).1, (bmF n m (x.1, x.2.1)).2, 17)
def mnF (n : Nat) (sl de ta st wl po : Nat → Int32) (m : Nat) (x : dS) : dS := if 0 < (mnY n sl de ta wl po m x).2.2 then pnF n m st ((mnY n sl de ta wl po m x).1, (mnY n sl de ta wl po m x).2.1, x.2.2) else ((mnY n sl de ta wl po m x).1, (mnY n sl de ta wl po m x).2.1, x.2.2)
def rnF (n : Nat) (sl de ta st wl po : Nat → Int32) (x : dS) : dS := lp (mnF n sl de ta st wl po) 0 24 x
/-- the line's entries are logs -/
def lnOk (n : Nat) (x : dS) : Prop := x.2.2.2.1 ≤ 8 ∧ ∀ i, i < x.2.2.2.1 → ∃ l, l < n ∧ x.2.2.1 i = nI l
theorem pnF_ok {n m : Nat} {st : Nat → Int32} {x : dS} (h : lnOk n x) : lnOk n (pnF n m st x) := by
  unfold pnF
  split
  · exact h
  · rename_i l hl
    have hq := piF_lt _ _ _ hl
    refine ⟨by show _ + 1 ≤ 8; omega, fun i hi => ?_⟩
    show ∃ l', l' < n ∧ upd x.2.2.1 x.2.2.2.1 (nI l) i = nI l'
    by_cases hx : i = x.2.2.2.1
    · exact ⟨l, by omega, by rw [hx]; exact pk_us⟩
    · obtain ⟨l', h1, h2⟩ := h.2 i (by have hi' : i < x.2.2.2.1 + 1 := hi; omega)
      exact ⟨l', h1, by rw [pk_un hx]; exact h2⟩
theorem mnF_ok {n : Nat} {sl de ta st wl po : Nat → Int32} {m : Nat} {x : dS} (h : lnOk n x) : lnOk n (mnF n sl de ta st wl po m x) := by
  unfold mnF
  split
  · exact pnF_ok h
  · exact h
theorem r_put1 {n m : Nat} (hn : n ≤ 8) (hv : v 4 = nI n) (hm : m < 24) (x : dS) (hz : x.2.2.2.1 ≤ 8) : Rn E 0 mX0_putIn (0, [(0, .ref 22), (1, .ref 3), (2, .int (nI m))], [], wX (va_up (va_up (va_up a 23 x.1) 24 x.2.1) 26 x.2.2.1) (upd (upd v 7 (nI x.2.2.2.1)) 8 x.2.2.2.2) t r) (none, wX (va_up (va_up (va_up a 23 (pnF n m (a 6) x).1) 24 (pnF n m (a 6) x).2.1) 26 (pnF n m (a 6) x).2.2.1) (upd (upd v 7 (nI (pnF n m (a 6) x).2.2.2.1)) 8 (pnF n m (a 6) x).2.2.2.2) t r) := by
  obtain ⟨H, S, LN, z, wt⟩ := x
  dsimp only at hz
  have key : ∀ (j i : Nat), i + j = n → Rn E 0 mX0_putIn (2, [(3, .int (nI i)), (0, .ref 22), (1, .ref 3), (2, .int (nI m))], [], wX (va_up (va_up (va_up a 23 (H, S, LN, z, wt).1) 24 (H, S, LN, z, wt).2.1) 26 (H, S, LN, z, wt).2.2.1) (upd (upd v 7 (nI (H, S, LN, z, wt).2.2.2.1)) 8 (H, S, LN, z, wt).2.2.2.2) t r) (none, match piF m (a 6) z wt i j with
      | none => wX (va_up (va_up (va_up a 23 (H, S, LN, z, wt).1) 24 (H, S, LN, z, wt).2.1) 26 (H, S, LN, z, wt).2.2.1) (upd (upd v 7 (nI (H, S, LN, z, wt).2.2.2.1)) 8 (H, S, LN, z, wt).2.2.2.2) t r
      | some l => wX (va_up (va_up (va_up a 23 (upd H (m * 8 + l) 0, S, upd LN z (nI l), z + 1, wt &&& (sh1 (nI l) ^^^ -1)).1) 24 (upd H (m * 8 + l) 0, S, upd LN z (nI l), z + 1, wt &&& (sh1 (nI l) ^^^ -1)).2.1) 26 (upd H (m * 8 + l) 0, S, upd LN z (nI l), z + 1, wt &&& (sh1 (nI l) ^^^ -1)).2.2.1) (upd (upd v 7 (nI (upd H (m * 8 + l) 0, S, upd LN z (nI l), z + 1, wt &&& (sh1 (nI l) ^^^ -1)).2.2.2.1)) 8 (upd H (m * 8 + l) 0, S, upd LN z (nI l), z + 1, wt &&& (sh1 (nI l) ^^^ -1)).2.2.2.2) t r) := by
    intro j
    induction j with
    | zero =>
      intro i hi
      repeat refine Rn.step rfl ?_
      refine Rn.br1 rfl (by show v 4 ≤ nI i; rw [hv]; exact nI_le (by omega) (by omega)) ?_
      exact Rn.ret rfl
    | succ j ih =>
      intro i hi
      have k3 := ih (i + 1) (by omega)
      rw [nI_succ] at k3
      repeat refine Rn.step rfl ?_
      refine Rn.br2 rfl (by show ¬ v 4 ≤ nI i; rw [hv]; exact nle (by omega) (by omega)) ?_
      repeat refine Rn.step rfl ?_
      unfold piF
      refine Rn.br rfl (fun h1 => ?_) (fun h1 => ?_)
      · rw [if_neg (fun q => h1 q.1)]
        iterate 2 refine Rn.step rfl ?_
        exact k3
      repeat refine Rn.step rfl ?_
      refine Rn.ald i rfl rfl (by omega) (by decide) ?_
      refine Rn.step rfl ?_
      refine Rn.br rfl (fun h2 => ?_) (fun h2 => ?_)
      · rw [if_neg (fun q => q.2.1 h2)]
        iterate 2 refine Rn.step rfl ?_
        exact k3
      repeat refine Rn.step rfl ?_
      refine Rn.br rfl (fun h3 => ?_) (fun h3 => ?_)
      · rw [if_neg (fun q => nle (n := 8) q.2.2 (by decide) h3)]
        iterate 2 refine Rn.step rfl ?_
        exact k3
      have h3' : z < 8 := by
        rcases Nat.lt_or_ge z 8 with q | q
        · exact q
        · exact absurd (nI_le (a := 8) q (by omega)) h3
      rw [if_pos ⟨Decidable.not_not.mp h1, h2, h3'⟩]
      iterate 10 refine Rn.step rfl ?_
      refine Rn.hp (h2 := wX (va_up (va_up (va_up a 23 (H, S, LN, z, wt &&& (sh1 (nI i) ^^^ -1)).1) 24 (H, S, LN, z, wt &&& (sh1 (nI i) ^^^ -1)).2.1) 26 (H, S, LN, z, wt &&& (sh1 (nI i) ^^^ -1)).2.2.1) (upd (upd v 7 (nI (H, S, LN, z, wt &&& (sh1 (nI i) ^^^ -1)).2.2.2.1)) 8 (H, S, LN, z, wt &&& (sh1 (nI i) ^^^ -1)).2.2.2.2) t r) rfl ?_
      repeat refine Rn.step rfl ?_
      refine Rn.ast z rfl rfl h3' (by decide) (h3 := wX (va_up (va_up (va_up a 23 (H, S, upd LN z (nI i), z, wt &&& (sh1 (nI i) ^^^ -1)).1) 24 (H, S, upd LN z (nI i), z, wt &&& (sh1 (nI i) ^^^ -1)).2.1) 26 (H, S, upd LN z (nI i), z, wt &&& (sh1 (nI i) ^^^ -1)).2.2.1) (upd (upd v 7 (nI (H, S, upd LN z (nI i), z, wt &&& (sh1 (nI i) ^^^ -1)).2.2.2.1)) 8 (H, S, upd LN z (nI i), z, wt &&& (sh1 (nI i) ^^^ -1)).2.2.2.2) t r) rfl ?_
      iterate 5 refine Rn.step rfl ?_
      refine Rn.top (nI_1 z) ?_
      refine Rn.step rfl ?_
      refine Rn.hp (h2 := wX (va_up (va_up (va_up a 23 (H, S, upd LN z (nI i), z + 1, wt &&& (sh1 (nI i) ^^^ -1)).1) 24 (H, S, upd LN z (nI i), z + 1, wt &&& (sh1 (nI i) ^^^ -1)).2.1) 26 (H, S, upd LN z (nI i), z + 1, wt &&& (sh1 (nI i) ^^^ -1)).2.2.1) (upd (upd v 7 (nI (H, S, upd LN z (nI i), z + 1, wt &&& (sh1 (nI i) ^^^ -1)).2.2.2.1)) 8 (H, S, upd LN z (nI i), z + 1, wt &&& (sh1 (nI i) ^^^ -1)).2.2.2.2) t r) rfl ?_
      repeat refine Rn.step rfl ?_
      refine Rn.ast (m * 8 + i) rfl (ix_ma m 8 i) (by omega) (by decide) (h3 := wX (va_up (va_up (va_up a 23 (upd H (m * 8 + i) 0, S, upd LN z (nI i), z + 1, wt &&& (sh1 (nI i) ^^^ -1)).1) 24 (upd H (m * 8 + i) 0, S, upd LN z (nI i), z + 1, wt &&& (sh1 (nI i) ^^^ -1)).2.1) 26 (upd H (m * 8 + i) 0, S, upd LN z (nI i), z + 1, wt &&& (sh1 (nI i) ^^^ -1)).2.2.1) (upd (upd v 7 (nI (upd H (m * 8 + i) 0, S, upd LN z (nI i), z + 1, wt &&& (sh1 (nI i) ^^^ -1)).2.2.2.1)) 8 (upd H (m * 8 + i) 0, S, upd LN z (nI i), z + 1, wt &&& (sh1 (nI i) ^^^ -1)).2.2.2.2) t r) rfl ?_
      exact Rn.ret rfl
  iterate 2 refine Rn.step rfl ?_
  have k0 := key n 0 (by omega)
  unfold pnF
  cases hp : piF m (a 6) z wt 0 n with
  | none =>
    rw [hp] at k0
    simp only [hp]
    exact k0
  | some l =>
    rw [hp] at k0
    simp only [hp]
    exact k0
theorem r_put2 {n m : Nat} (hn : n ≤ 8) (hv : v 4 = nI n) (hm : m < 24) (x : dS) (hz : x.2.2.2.1 ≤ 8) : Rn E 0 mX0_putIn (0, [(0, .ref 31), (1, .ref 3), (2, .int (nI m))], [], wX (va_up (va_up (va_up a 32 x.1) 33 x.2.1) 35 x.2.2.1) (upd (upd v 9 (nI x.2.2.2.1)) 10 x.2.2.2.2) t r) (none, wX (va_up (va_up (va_up a 32 (pnF n m (a 6) x).1) 33 (pnF n m (a 6) x).2.1) 35 (pnF n m (a 6) x).2.2.1) (upd (upd v 9 (nI (pnF n m (a 6) x).2.2.2.1)) 10 (pnF n m (a 6) x).2.2.2.2) t r) := by
  obtain ⟨H, S, LN, z, wt⟩ := x
  dsimp only at hz
  have key : ∀ (j i : Nat), i + j = n → Rn E 0 mX0_putIn (2, [(3, .int (nI i)), (0, .ref 31), (1, .ref 3), (2, .int (nI m))], [], wX (va_up (va_up (va_up a 32 (H, S, LN, z, wt).1) 33 (H, S, LN, z, wt).2.1) 35 (H, S, LN, z, wt).2.2.1) (upd (upd v 9 (nI (H, S, LN, z, wt).2.2.2.1)) 10 (H, S, LN, z, wt).2.2.2.2) t r) (none, match piF m (a 6) z wt i j with
      | none => wX (va_up (va_up (va_up a 32 (H, S, LN, z, wt).1) 33 (H, S, LN, z, wt).2.1) 35 (H, S, LN, z, wt).2.2.1) (upd (upd v 9 (nI (H, S, LN, z, wt).2.2.2.1)) 10 (H, S, LN, z, wt).2.2.2.2) t r
      | some l => wX (va_up (va_up (va_up a 32 (upd H (m * 8 + l) 0, S, upd LN z (nI l), z + 1, wt &&& (sh1 (nI l) ^^^ -1)).1) 33 (upd H (m * 8 + l) 0, S, upd LN z (nI l), z + 1, wt &&& (sh1 (nI l) ^^^ -1)).2.1) 35 (upd H (m * 8 + l) 0, S, upd LN z (nI l), z + 1, wt &&& (sh1 (nI l) ^^^ -1)).2.2.1) (upd (upd v 9 (nI (upd H (m * 8 + l) 0, S, upd LN z (nI l), z + 1, wt &&& (sh1 (nI l) ^^^ -1)).2.2.2.1)) 10 (upd H (m * 8 + l) 0, S, upd LN z (nI l), z + 1, wt &&& (sh1 (nI l) ^^^ -1)).2.2.2.2) t r) := by
    intro j
    induction j with
    | zero =>
      intro i hi
      repeat refine Rn.step rfl ?_
      refine Rn.br1 rfl (by show v 4 ≤ nI i; rw [hv]; exact nI_le (by omega) (by omega)) ?_
      exact Rn.ret rfl
    | succ j ih =>
      intro i hi
      have k3 := ih (i + 1) (by omega)
      rw [nI_succ] at k3
      repeat refine Rn.step rfl ?_
      refine Rn.br2 rfl (by show ¬ v 4 ≤ nI i; rw [hv]; exact nle (by omega) (by omega)) ?_
      repeat refine Rn.step rfl ?_
      unfold piF
      refine Rn.br rfl (fun h1 => ?_) (fun h1 => ?_)
      · rw [if_neg (fun q => h1 q.1)]
        iterate 2 refine Rn.step rfl ?_
        exact k3
      repeat refine Rn.step rfl ?_
      refine Rn.ald i rfl rfl (by omega) (by decide) ?_
      refine Rn.step rfl ?_
      refine Rn.br rfl (fun h2 => ?_) (fun h2 => ?_)
      · rw [if_neg (fun q => q.2.1 h2)]
        iterate 2 refine Rn.step rfl ?_
        exact k3
      repeat refine Rn.step rfl ?_
      refine Rn.br rfl (fun h3 => ?_) (fun h3 => ?_)
      · rw [if_neg (fun q => nle (n := 8) q.2.2 (by decide) h3)]
        iterate 2 refine Rn.step rfl ?_
        exact k3
      have h3' : z < 8 := by
        rcases Nat.lt_or_ge z 8 with q | q
        · exact q
        · exact absurd (nI_le (a := 8) q (by omega)) h3
      rw [if_pos ⟨Decidable.not_not.mp h1, h2, h3'⟩]
      iterate 10 refine Rn.step rfl ?_
      refine Rn.hp (h2 := wX (va_up (va_up (va_up a 32 (H, S, LN, z, wt &&& (sh1 (nI i) ^^^ -1)).1) 33 (H, S, LN, z, wt &&& (sh1 (nI i) ^^^ -1)).2.1) 35 (H, S, LN, z, wt &&& (sh1 (nI i) ^^^ -1)).2.2.1) (upd (upd v 9 (nI (H, S, LN, z, wt &&& (sh1 (nI i) ^^^ -1)).2.2.2.1)) 10 (H, S, LN, z, wt &&& (sh1 (nI i) ^^^ -1)).2.2.2.2) t r) rfl ?_
      repeat refine Rn.step rfl ?_
      refine Rn.ast z rfl rfl h3' (by decide) (h3 := wX (va_up (va_up (va_up a 32 (H, S, upd LN z (nI i), z, wt &&& (sh1 (nI i) ^^^ -1)).1) 33 (H, S, upd LN z (nI i), z, wt &&& (sh1 (nI i) ^^^ -1)).2.1) 35 (H, S, upd LN z (nI i), z, wt &&& (sh1 (nI i) ^^^ -1)).2.2.1) (upd (upd v 9 (nI (H, S, upd LN z (nI i), z, wt &&& (sh1 (nI i) ^^^ -1)).2.2.2.1)) 10 (H, S, upd LN z (nI i), z, wt &&& (sh1 (nI i) ^^^ -1)).2.2.2.2) t r) rfl ?_
      iterate 5 refine Rn.step rfl ?_
      refine Rn.top (nI_1 z) ?_
      refine Rn.step rfl ?_
      refine Rn.hp (h2 := wX (va_up (va_up (va_up a 32 (H, S, upd LN z (nI i), z + 1, wt &&& (sh1 (nI i) ^^^ -1)).1) 33 (H, S, upd LN z (nI i), z + 1, wt &&& (sh1 (nI i) ^^^ -1)).2.1) 35 (H, S, upd LN z (nI i), z + 1, wt &&& (sh1 (nI i) ^^^ -1)).2.2.1) (upd (upd v 9 (nI (H, S, upd LN z (nI i), z + 1, wt &&& (sh1 (nI i) ^^^ -1)).2.2.2.1)) 10 (H, S, upd LN z (nI i), z + 1, wt &&& (sh1 (nI i) ^^^ -1)).2.2.2.2) t r) rfl ?_
      repeat refine Rn.step rfl ?_
      refine Rn.ast (m * 8 + i) rfl (ix_ma m 8 i) (by omega) (by decide) (h3 := wX (va_up (va_up (va_up a 32 (upd H (m * 8 + i) 0, S, upd LN z (nI i), z + 1, wt &&& (sh1 (nI i) ^^^ -1)).1) 33 (upd H (m * 8 + i) 0, S, upd LN z (nI i), z + 1, wt &&& (sh1 (nI i) ^^^ -1)).2.1) 35 (upd H (m * 8 + i) 0, S, upd LN z (nI i), z + 1, wt &&& (sh1 (nI i) ^^^ -1)).2.2.1) (upd (upd v 9 (nI (upd H (m * 8 + i) 0, S, upd LN z (nI i), z + 1, wt &&& (sh1 (nI i) ^^^ -1)).2.2.2.1)) 10 (upd H (m * 8 + i) 0, S, upd LN z (nI i), z + 1, wt &&& (sh1 (nI i) ^^^ -1)).2.2.2.2) t r) rfl ?_
      exact Rn.ret rfl
  iterate 2 refine Rn.step rfl ?_
  have k0 := key n 0 (by omega)
  unfold pnF
  cases hp : piF m (a 6) z wt 0 n with
  | none =>
    rw [hp] at k0
    simp only [hp]
    exact k0
  | some l =>
    rw [hp] at k0
    simp only [hp]
    exact k0
theorem r_run1 (kp : Int32) {n k : Nat} (hn : n ≤ 8) (hv4 : v 4 = nI n) (hk : k ≤ 8) (hv : v 5 = nI k) {mn : Nat → Nat} (hmn : ∀ e, e < k → a 11 e = nI (mn e) ∧ mn e < 24) {PO : Nat → Int32} (hPO : PO = mkA (a 10) mn (a 12) k 0 kp (a 25)) {XF : dS} (hXF : XF = (rnF n (a 4) (a 7) (a 8) (a 6) (a 19) PO (a 23, a 24, a 26, 0, sh1 (v 4) - 1))) : Rn E 1 mX0_run (0, [(0, .ref 22), (1, .ref 3), (2, .ref 18), (3, .ref 9), (4, .int kp)], [], wX a v t r) (none, wX (va_up (va_up (va_up (va_up a 25 PO) 23 XF.1) 24 XF.2.1) 26 XF.2.2.1) (upd (upd v 7 (nI XF.2.2.2.1)) 8 XF.2.2.2.2) t r) := by
  repeat refine Rn.step rfl ?_
  refine Rn.callv rfl rfl rfl (by decide) (r_mark (K := 25) (by decide) 0 kp hk hv hmn) ?_
  rw [← hPO]
  iterate 3 refine Rn.step rfl ?_
  refine Rn.hp (h2 := wX (va_up a 25 PO) (upd v 7 0) t r) rfl ?_
  repeat refine Rn.step rfl ?_
  refine Rn.calli rfl rfl rfl (by decide) r_logBits (fun x1 e1 => ?_)
  refine Rn.step rfl ?_
  refine Rn.hp (h2 := wX (va_up (va_up (va_up (va_up a 25 PO) 23 (a 23)) 24 (a 24)) 26 (a 26)) (upd (upd v 7 (nI 0)) 8 (sh1 (v 4) - 1)) t r) (by subst e1; rfl) ?_
  iterate 2 refine Rn.step rfl ?_
  refine Rn.lp (σ := dS) (cfg := fun m x => (27, [(5, .int (nI m)), (0, .ref 22), (1, .ref 3), (2, .ref 18), (3, .ref 9), (4, .int kp)], [], wX (va_up (va_up (va_up (va_up a 25 PO) 23 x.1) 24 x.2.1) 26 x.2.2.1) (upd (upd v 7 (nI x.2.2.2.1)) 8 x.2.2.2.2) t r)) (f := mnF n (a 4) (a 7) (a 8) (a 6) (a 19) PO) (n := 24) (fun _ x => lnOk n x) (fun m x hm hI => ⟨mnF_ok hI, fun k1 => ?_⟩) 24 0 (a 23, a 24, a 26, 0, sh1 (v 4) - 1) rfl ⟨Nat.zero_le _, fun i hi => absurd hi (Nat.not_lt_zero _)⟩ (fun x0 hx0 _ => ?_)
  · rw [nI_succ] at k1
    obtain ⟨HH, SS, LN, z, wt⟩ := x
    obtain ⟨hz8, hLN⟩ := hI
    dsimp only at hz8 hLN
    repeat refine Rn.step rfl ?_
    refine Rn.br2 rfl (nle hm (by decide)) ?_
    repeat refine Rn.step rfl ?_
    refine Rn.callv rfl rfl rfl (by decide) (r_beg1 (a := (va_up (va_up (va_up (va_up a 25 PO) 23 HH) 24 SS) 26 LN)) (v := (upd (upd v 7 (nI z)) 8 wt)) hn hv4 hm) ?_
    iterate 4 refine Rn.step rfl ?_
    refine Rn.lp (σ := (Nat → Int32) × (Nat → Int32) × Int32) (cfg := fun i y => (48, [(7, .int (nI i)), (6, .int y.2.2), (5, .int (nI m)), (0, .ref 22), (1, .ref 3), (2, .ref 18), (3, .ref 9), (4, .int kp)], [], wX (va_up (va_up (va_up (va_up a 25 PO) 23 y.1) 24 y.2.1) 26 LN) (upd (upd v 7 (nI z)) 8 wt) t r)) (f := lnF (a 4) (a 7) (a 8) (a 19) (PO m) m LN) (n := z) (fun _ _ => True) (fun i y hi _ => ⟨trivial, fun k2 => ?_⟩) z 0 ((bmF n m (HH, SS)).1, (bmF n m (HH, SS)).2, 17) (by omega) trivial (fun y hy _ => ?_)
    · rw [nI_succ] at k2
      obtain ⟨l, hl, eLN⟩ := hLN i hi
      have el : (LN i).toNatClampNeg = l := by rw [eLN]; exact nI_clamp (by omega)
      repeat refine Rn.step rfl ?_
      refine Rn.br2 rfl (nle hi (by omega)) ?_
      repeat refine Rn.step rfl ?_
      refine Rn.ald i rfl rfl (by omega) (by decide) ?_
      refine Rn.top eLN ?_
      repeat refine Rn.step rfl ?_
      refine Rn.ald (m * 8 + l) rfl (ix_ma m 8 l) (by omega) (by decide) ?_
      refine Rn.step rfl ?_
      refine Rn.calli rfl rfl rfl (by decide) (r_within (y.1 (m * 8 + l)) 16 _) (fun x2 e2 => ?_)
      refine Rn.br rfl (fun h1 => ?_) (fun h1 => ?_)
      · have hc := ib_eq0.mp (e2 ▸ h1)
        rw [show lnF (a 4) (a 7) (a 8) (a 19) (PO m) m LN i y = y from by unfold lnF; rw [el]; exact if_neg hc] at k2
        iterate 2 refine Rn.step rfl ?_
        exact Rn.sub (by exact ⟨rfl, rfl, rfl, rfl, rfl, rfl, rfl, rfl, trivial⟩) k2
      · have hc := ib_ne0.mp (e2 ▸ h1)
        obtain ⟨hd, hh, ehd⟩ := inB_ex (n := 16) (by decide) hc
        have ecl : (y.1 (m * 8 + l)).toNatClampNeg = hd := by rw [ehd]; exact nI_clamp (by omega)
        have hk2 : lnF (a 4) (a 7) (a 8) (a 19) (PO m) m LN i y = (upd y.1 (m * 8 + l) (nI (mvQ (a 4) (a 7) (a 19) (PO m) m l y.2.2 (y.1 (m * 8 + l))).1), if (mvQ (a 4) (a 7) (a 19) (PO m) m l y.2.2 (y.1 (m * 8 + l))).2 = 0 then y.2.1 else upd y.2.1 (m * 8 + l) (nI (mvQ (a 4) (a 7) (a 19) (PO m) m l y.2.2 (y.1 (m * 8 + l))).2), if nI (mvQ (a 4) (a 7) (a 19) (PO m) m l y.2.2 (y.1 (m * 8 + l))).1 = 16 then y.2.2 else mx0 (nI (mvQ (a 4) (a 7) (a 19) (PO m) m l y.2.2 (y.1 (m * 8 + l))).1 - a 8 l)) := by
          unfold lnF
          rw [el]
          exact if_pos hc
        have hq : mvF (decide (bt (PO m) l)) (fun h => a 19 (m * 16 + h)) (a 7 l) (fun h => decide (¬ nI (h + 1) < y.2.2)) (a 4 hd + ib (bt (PO m) l)) 17 0 hd = (mvQ (a 4) (a 7) (a 19) (PO m) m l y.2.2 (y.1 (m * 8 + l))) := by
          unfold mvQ
          rw [ecl]
        obtain ⟨q, hq2⟩ : ∃ q, q = (mvQ (a 4) (a 7) (a 19) (PO m) m l y.2.2 (y.1 (m * 8 + l))) := ⟨_, rfl⟩
        rw [← hq2] at hk2 hq
        rw [hk2] at k2
        repeat refine Rn.step rfl ?_
        refine Rn.calli rfl rfl rfl (by decide) (r_mov1 (a := (va_up (va_up (va_up (va_up a 25 PO) 23 y.1) 24 y.2.1) 26 LN)) (v := (upd (upd v 7 (nI z)) 8 wt)) hm (by omega) hh y.2.2 ehd) (fun x3 e3 => ?_)
        refine Rn.hp (h2 := wX (va_up (va_up (va_up (va_up a 25 PO) 23 (upd y.1 (m * 8 + l) (nI q.1))) 24 (if q.2 = 0 then y.2.1 else upd y.2.1 (m * 8 + l) (nI q.2))) 26 LN) (upd (upd v 7 (nI z)) 8 wt) t r) (by rw [← hq]; rfl) ?_
        have e3 : x3 = nI q.1 := by rw [← hq]; exact e3
        subst e3
        have fin : ∀ bb : Int32, bb = (if nI q.1 = 16 then y.2.2 else mx0 (nI q.1 - a 8 l)) → Rn E 1 mX0_run (127, [(9, .int (nI q.1)), (8, .int (nI l)), (7, .int (nI i)), (6, .int y.2.2), (5, .int (nI m)), (0, .ref 22), (1, .ref 3), (2, .ref 18), (3, .ref 9), (4, .int kp)], [.int bb], wX (va_up (va_up (va_up (va_up a 25 PO) 23 (upd y.1 (m * 8 + l) (nI q.1))) 24 (if q.2 = 0 then y.2.1 else upd y.2.1 (m * 8 + l) (nI q.2))) 26 LN) (upd (upd v 7 (nI z)) 8 wt) t r) (none, wX (va_up (va_up (va_up (va_up a 25 PO) 23 XF.1) 24 XF.2.1) 26 XF.2.2.1) (upd (upd v 7 (nI XF.2.2.2.1)) 8 XF.2.2.2.2) t r) := by
          intro bb hbb
          rw [← hbb] at k2
          iterate 3 refine Rn.step rfl ?_
          exact Rn.sub (by exact ⟨rfl, rfl, rfl, rfl, rfl, rfl, rfl, rfl, trivial⟩) k2
        repeat refine Rn.step rfl ?_
        refine Rn.br rfl (fun h2 => ?_) (fun h2 => ?_)
        · repeat refine Rn.step rfl ?_
          refine Rn.ald l rfl rfl (by omega) (by decide) ?_
          iterate 3 refine Rn.step rfl ?_
          exact fin _ (if_neg h2).symm
        · iterate 2 refine Rn.step rfl ?_
          exact fin _ (if_pos (Decidable.not_not.mp h2)).symm
    · repeat refine Rn.step rfl ?_
      refine Rn.br1 rfl (Int32.le_refl _) ?_
      refine Rn.step rfl ?_
      have eY : y = mnY n (a 4) (a 7) (a 8) (a 19) PO m (HH, SS, LN, z, wt) := hy
      refine Rn.br rfl (fun h1 => ?_) (fun h1 => ?_)
      · iterate 2 refine Rn.step rfl ?_
        rw [show mnF n (a 4) (a 7) (a 8) (a 6) (a 19) PO m (HH, SS, LN, z, wt) = (y.1, y.2.1, LN, z, wt) from by unfold mnF; rw [← eY]; exact if_neg (Int32.not_lt.mpr h1)] at k1
        exact Rn.sub (by exact ⟨rfl, rfl, rfl, rfl, rfl, rfl, trivial⟩) k1
      · rw [show mnF n (a 4) (a 7) (a 8) (a 6) (a 19) PO m (HH, SS, LN, z, wt) = pnF n m (a 6) (y.1, y.2.1, LN, z, wt) from by unfold mnF; rw [← eY]; exact if_pos (Int32.not_le.mp h1)] at k1
        repeat refine Rn.step rfl ?_
        refine Rn.callv rfl rfl rfl (by decide) (r_put1 (a := (va_up a 25 PO)) (v := v) hn hv4 hm (y.1, y.2.1, LN, z, wt) hz8) ?_
        iterate 2 refine Rn.step rfl ?_
        exact Rn.sub (by exact ⟨rfl, rfl, rfl, rfl, rfl, rfl, trivial⟩) k1
  · repeat refine Rn.step rfl ?_
    have hx1 : x0 = XF := by rw [hXF]; exact hx0
    rw [← hx1]
    exact Rn.ret rfl
theorem r_run2 (kp : Int32) {n k : Nat} (hn : n ≤ 8) (hv4 : v 4 = nI n) (hk : k ≤ 8) (hv : v 5 = nI k) {mn : Nat → Nat} (hmn : ∀ e, e < k → a 11 e = nI (mn e) ∧ mn e < 24) {PO : Nat → Int32} (hPO : PO = mkA (a 10) mn (a 12) k 0 kp (a 34)) {XF : dS} (hXF : XF = (rnF n (a 4) (a 7) (a 8) (a 6) (a 19) PO (a 32, a 33, a 35, 0, sh1 (v 4) - 1))) : Rn E 1 mX0_run (0, [(0, .ref 31), (1, .ref 3), (2, .ref 18), (3, .ref 9), (4, .int kp)], [], wX a v t r) (none, wX (va_up (va_up (va_up (va_up a 34 PO) 32 XF.1) 33 XF.2.1) 35 XF.2.2.1) (upd (upd v 9 (nI XF.2.2.2.1)) 10 XF.2.2.2.2) t r) := by
  repeat refine Rn.step rfl ?_
  refine Rn.callv rfl rfl rfl (by decide) (r_mark (K := 34) (by decide) 0 kp hk hv hmn) ?_
  rw [← hPO]
  iterate 3 refine Rn.step rfl ?_
  refine Rn.hp (h2 := wX (va_up a 34 PO) (upd v 9 0) t r) rfl ?_
  repeat refine Rn.step rfl ?_
  refine Rn.calli rfl rfl rfl (by decide) r_logBits (fun x1 e1 => ?_)
  refine Rn.step rfl ?_
  refine Rn.hp (h2 := wX (va_up (va_up (va_up (va_up a 34 PO) 32 (a 32)) 33 (a 33)) 35 (a 35)) (upd (upd v 9 (nI 0)) 10 (sh1 (v 4) - 1)) t r) (by subst e1; rfl) ?_
  iterate 2 refine Rn.step rfl ?_
  refine Rn.lp (σ := dS) (cfg := fun m x => (27, [(5, .int (nI m)), (0, .ref 31), (1, .ref 3), (2, .ref 18), (3, .ref 9), (4, .int kp)], [], wX (va_up (va_up (va_up (va_up a 34 PO) 32 x.1) 33 x.2.1) 35 x.2.2.1) (upd (upd v 9 (nI x.2.2.2.1)) 10 x.2.2.2.2) t r)) (f := mnF n (a 4) (a 7) (a 8) (a 6) (a 19) PO) (n := 24) (fun _ x => lnOk n x) (fun m x hm hI => ⟨mnF_ok hI, fun k1 => ?_⟩) 24 0 (a 32, a 33, a 35, 0, sh1 (v 4) - 1) rfl ⟨Nat.zero_le _, fun i hi => absurd hi (Nat.not_lt_zero _)⟩ (fun x0 hx0 _ => ?_)
  · rw [nI_succ] at k1
    obtain ⟨HH, SS, LN, z, wt⟩ := x
    obtain ⟨hz8, hLN⟩ := hI
    dsimp only at hz8 hLN
    repeat refine Rn.step rfl ?_
    refine Rn.br2 rfl (nle hm (by decide)) ?_
    repeat refine Rn.step rfl ?_
    refine Rn.callv rfl rfl rfl (by decide) (r_beg2 (a := (va_up (va_up (va_up (va_up a 34 PO) 32 HH) 33 SS) 35 LN)) (v := (upd (upd v 9 (nI z)) 10 wt)) hn hv4 hm) ?_
    iterate 4 refine Rn.step rfl ?_
    refine Rn.lp (σ := (Nat → Int32) × (Nat → Int32) × Int32) (cfg := fun i y => (48, [(7, .int (nI i)), (6, .int y.2.2), (5, .int (nI m)), (0, .ref 31), (1, .ref 3), (2, .ref 18), (3, .ref 9), (4, .int kp)], [], wX (va_up (va_up (va_up (va_up a 34 PO) 32 y.1) 33 y.2.1) 35 LN) (upd (upd v 9 (nI z)) 10 wt) t r)) (f := lnF (a 4) (a 7) (a 8) (a 19) (PO m) m LN) (n := z) (fun _ _ => True) (fun i y hi _ => ⟨trivial, fun k2 => ?_⟩) z 0 ((bmF n m (HH, SS)).1, (bmF n m (HH, SS)).2, 17) (by omega) trivial (fun y hy _ => ?_)
    · rw [nI_succ] at k2
      obtain ⟨l, hl, eLN⟩ := hLN i hi
      have el : (LN i).toNatClampNeg = l := by rw [eLN]; exact nI_clamp (by omega)
      repeat refine Rn.step rfl ?_
      refine Rn.br2 rfl (nle hi (by omega)) ?_
      repeat refine Rn.step rfl ?_
      refine Rn.ald i rfl rfl (by omega) (by decide) ?_
      refine Rn.top eLN ?_
      repeat refine Rn.step rfl ?_
      refine Rn.ald (m * 8 + l) rfl (ix_ma m 8 l) (by omega) (by decide) ?_
      refine Rn.step rfl ?_
      refine Rn.calli rfl rfl rfl (by decide) (r_within (y.1 (m * 8 + l)) 16 _) (fun x2 e2 => ?_)
      refine Rn.br rfl (fun h1 => ?_) (fun h1 => ?_)
      · have hc := ib_eq0.mp (e2 ▸ h1)
        rw [show lnF (a 4) (a 7) (a 8) (a 19) (PO m) m LN i y = y from by unfold lnF; rw [el]; exact if_neg hc] at k2
        iterate 2 refine Rn.step rfl ?_
        exact Rn.sub (by exact ⟨rfl, rfl, rfl, rfl, rfl, rfl, rfl, rfl, trivial⟩) k2
      · have hc := ib_ne0.mp (e2 ▸ h1)
        obtain ⟨hd, hh, ehd⟩ := inB_ex (n := 16) (by decide) hc
        have ecl : (y.1 (m * 8 + l)).toNatClampNeg = hd := by rw [ehd]; exact nI_clamp (by omega)
        have hk2 : lnF (a 4) (a 7) (a 8) (a 19) (PO m) m LN i y = (upd y.1 (m * 8 + l) (nI (mvQ (a 4) (a 7) (a 19) (PO m) m l y.2.2 (y.1 (m * 8 + l))).1), if (mvQ (a 4) (a 7) (a 19) (PO m) m l y.2.2 (y.1 (m * 8 + l))).2 = 0 then y.2.1 else upd y.2.1 (m * 8 + l) (nI (mvQ (a 4) (a 7) (a 19) (PO m) m l y.2.2 (y.1 (m * 8 + l))).2), if nI (mvQ (a 4) (a 7) (a 19) (PO m) m l y.2.2 (y.1 (m * 8 + l))).1 = 16 then y.2.2 else mx0 (nI (mvQ (a 4) (a 7) (a 19) (PO m) m l y.2.2 (y.1 (m * 8 + l))).1 - a 8 l)) := by
          unfold lnF
          rw [el]
          exact if_pos hc
        have hq : mvF (decide (bt (PO m) l)) (fun h => a 19 (m * 16 + h)) (a 7 l) (fun h => decide (¬ nI (h + 1) < y.2.2)) (a 4 hd + ib (bt (PO m) l)) 17 0 hd = (mvQ (a 4) (a 7) (a 19) (PO m) m l y.2.2 (y.1 (m * 8 + l))) := by
          unfold mvQ
          rw [ecl]
        obtain ⟨q, hq2⟩ : ∃ q, q = (mvQ (a 4) (a 7) (a 19) (PO m) m l y.2.2 (y.1 (m * 8 + l))) := ⟨_, rfl⟩
        rw [← hq2] at hk2 hq
        rw [hk2] at k2
        repeat refine Rn.step rfl ?_
        refine Rn.calli rfl rfl rfl (by decide) (r_mov2 (a := (va_up (va_up (va_up (va_up a 34 PO) 32 y.1) 33 y.2.1) 35 LN)) (v := (upd (upd v 9 (nI z)) 10 wt)) hm (by omega) hh y.2.2 ehd) (fun x3 e3 => ?_)
        refine Rn.hp (h2 := wX (va_up (va_up (va_up (va_up a 34 PO) 32 (upd y.1 (m * 8 + l) (nI q.1))) 33 (if q.2 = 0 then y.2.1 else upd y.2.1 (m * 8 + l) (nI q.2))) 35 LN) (upd (upd v 9 (nI z)) 10 wt) t r) (by rw [← hq]; rfl) ?_
        have e3 : x3 = nI q.1 := by rw [← hq]; exact e3
        subst e3
        have fin : ∀ bb : Int32, bb = (if nI q.1 = 16 then y.2.2 else mx0 (nI q.1 - a 8 l)) → Rn E 1 mX0_run (127, [(9, .int (nI q.1)), (8, .int (nI l)), (7, .int (nI i)), (6, .int y.2.2), (5, .int (nI m)), (0, .ref 31), (1, .ref 3), (2, .ref 18), (3, .ref 9), (4, .int kp)], [.int bb], wX (va_up (va_up (va_up (va_up a 34 PO) 32 (upd y.1 (m * 8 + l) (nI q.1))) 33 (if q.2 = 0 then y.2.1 else upd y.2.1 (m * 8 + l) (nI q.2))) 35 LN) (upd (upd v 9 (nI z)) 10 wt) t r) (none, wX (va_up (va_up (va_up (va_up a 34 PO) 32 XF.1) 33 XF.2.1) 35 XF.2.2.1) (upd (upd v 9 (nI XF.2.2.2.1)) 10 XF.2.2.2.2) t r) := by
          intro bb hbb
          rw [← hbb] at k2
          iterate 3 refine Rn.step rfl ?_
          exact Rn.sub (by exact ⟨rfl, rfl, rfl, rfl, rfl, rfl, rfl, rfl, trivial⟩) k2
        repeat refine Rn.step rfl ?_
        refine Rn.br rfl (fun h2 => ?_) (fun h2 => ?_)
        · repeat refine Rn.step rfl ?_
          refine Rn.ald l rfl rfl (by omega) (by decide) ?_
          iterate 3 refine Rn.step rfl ?_
          exact fin _ (if_neg h2).symm
        · iterate 2 refine Rn.step rfl ?_
          exact fin _ (if_pos (Decidable.not_not.mp h2)).symm
    · repeat refine Rn.step rfl ?_
      refine Rn.br1 rfl (Int32.le_refl _) ?_
      refine Rn.step rfl ?_
      have eY : y = mnY n (a 4) (a 7) (a 8) (a 19) PO m (HH, SS, LN, z, wt) := hy
      refine Rn.br rfl (fun h1 => ?_) (fun h1 => ?_)
      · iterate 2 refine Rn.step rfl ?_
        rw [show mnF n (a 4) (a 7) (a 8) (a 6) (a 19) PO m (HH, SS, LN, z, wt) = (y.1, y.2.1, LN, z, wt) from by unfold mnF; rw [← eY]; exact if_neg (Int32.not_lt.mpr h1)] at k1
        exact Rn.sub (by exact ⟨rfl, rfl, rfl, rfl, rfl, rfl, trivial⟩) k1
      · rw [show mnF n (a 4) (a 7) (a 8) (a 6) (a 19) PO m (HH, SS, LN, z, wt) = pnF n m (a 6) (y.1, y.2.1, LN, z, wt) from by unfold mnF; rw [← eY]; exact if_pos (Int32.not_le.mp h1)] at k1
        repeat refine Rn.step rfl ?_
        refine Rn.callv rfl rfl rfl (by decide) (r_put2 (a := (va_up a 34 PO)) (v := v) hn hv4 hm (y.1, y.2.1, LN, z, wt) hz8) ?_
        iterate 2 refine Rn.step rfl ?_
        exact Rn.sub (by exact ⟨rfl, rfl, rfl, rfl, rfl, rfl, trivial⟩) k1
  · repeat refine Rn.step rfl ?_
    have hx1 : x0 = XF := by rw [hXF]; exact hx0
    rw [← hx1]
    exact Rn.ret rfl
theorem r_run3 (kp : Int32) {n k : Nat} (hn : n ≤ 8) (hv4 : v 4 = nI n) (hk : k ≤ 8) (hv : v 5 = nI k) {mn : Nat → Nat} (hmn : ∀ e, e < k → a 11 e = nI (mn e) ∧ mn e < 24) {PO : Nat → Int32} (hPO : PO = mkA (a 10) mn (a 12) k 0 kp (a 34)) {XF : dS} (hXF : XF = (rnF n (a 4) (a 7) (a 8) (a 6) (a 28) PO (a 32, a 33, a 35, 0, sh1 (v 4) - 1))) : Rn E 1 mX0_run (0, [(0, .ref 31), (1, .ref 3), (2, .ref 27), (3, .ref 9), (4, .int kp)], [], wX a v t r) (none, wX (va_up (va_up (va_up (va_up a 34 PO) 32 XF.1) 33 XF.2.1) 35 XF.2.2.1) (upd (upd v 9 (nI XF.2.2.2.1)) 10 XF.2.2.2.2) t r) := by
  repeat refine Rn.step rfl ?_
  refine Rn.callv rfl rfl rfl (by decide) (r_mark (K := 34) (by decide) 0 kp hk hv hmn) ?_
  rw [← hPO]
  iterate 3 refine Rn.step rfl ?_
  refine Rn.hp (h2 := wX (va_up a 34 PO) (upd v 9 0) t r) rfl ?_
  repeat refine Rn.step rfl ?_
  refine Rn.calli rfl rfl rfl (by decide) r_logBits (fun x1 e1 => ?_)
  refine Rn.step rfl ?_
  refine Rn.hp (h2 := wX (va_up (va_up (va_up (va_up a 34 PO) 32 (a 32)) 33 (a 33)) 35 (a 35)) (upd (upd v 9 (nI 0)) 10 (sh1 (v 4) - 1)) t r) (by subst e1; rfl) ?_
  iterate 2 refine Rn.step rfl ?_
  refine Rn.lp (σ := dS) (cfg := fun m x => (27, [(5, .int (nI m)), (0, .ref 31), (1, .ref 3), (2, .ref 27), (3, .ref 9), (4, .int kp)], [], wX (va_up (va_up (va_up (va_up a 34 PO) 32 x.1) 33 x.2.1) 35 x.2.2.1) (upd (upd v 9 (nI x.2.2.2.1)) 10 x.2.2.2.2) t r)) (f := mnF n (a 4) (a 7) (a 8) (a 6) (a 28) PO) (n := 24) (fun _ x => lnOk n x) (fun m x hm hI => ⟨mnF_ok hI, fun k1 => ?_⟩) 24 0 (a 32, a 33, a 35, 0, sh1 (v 4) - 1) rfl ⟨Nat.zero_le _, fun i hi => absurd hi (Nat.not_lt_zero _)⟩ (fun x0 hx0 _ => ?_)
  · rw [nI_succ] at k1
    obtain ⟨HH, SS, LN, z, wt⟩ := x
    obtain ⟨hz8, hLN⟩ := hI
    dsimp only at hz8 hLN
    repeat refine Rn.step rfl ?_
    refine Rn.br2 rfl (nle hm (by decide)) ?_
    repeat refine Rn.step rfl ?_
    refine Rn.callv rfl rfl rfl (by decide) (r_beg2 (a := (va_up (va_up (va_up (va_up a 34 PO) 32 HH) 33 SS) 35 LN)) (v := (upd (upd v 9 (nI z)) 10 wt)) hn hv4 hm) ?_
    iterate 4 refine Rn.step rfl ?_
    refine Rn.lp (σ := (Nat → Int32) × (Nat → Int32) × Int32) (cfg := fun i y => (48, [(7, .int (nI i)), (6, .int y.2.2), (5, .int (nI m)), (0, .ref 31), (1, .ref 3), (2, .ref 27), (3, .ref 9), (4, .int kp)], [], wX (va_up (va_up (va_up (va_up a 34 PO) 32 y.1) 33 y.2.1) 35 LN) (upd (upd v 9 (nI z)) 10 wt) t r)) (f := lnF (a 4) (a 7) (a 8) (a 28) (PO m) m LN) (n := z) (fun _ _ => True) (fun i y hi _ => ⟨trivial, fun k2 => ?_⟩) z 0 ((bmF n m (HH, SS)).1, (bmF n m (HH, SS)).2, 17) (by omega) trivial (fun y hy _ => ?_)
    · rw [nI_succ] at k2
      obtain ⟨l, hl, eLN⟩ := hLN i hi
      have el : (LN i).toNatClampNeg = l := by rw [eLN]; exact nI_clamp (by omega)
      repeat refine Rn.step rfl ?_
      refine Rn.br2 rfl (nle hi (by omega)) ?_
      repeat refine Rn.step rfl ?_
      refine Rn.ald i rfl rfl (by omega) (by decide) ?_
      refine Rn.top eLN ?_
      repeat refine Rn.step rfl ?_
      refine Rn.ald (m * 8 + l) rfl (ix_ma m 8 l) (by omega) (by decide) ?_
      refine Rn.step rfl ?_
      refine Rn.calli rfl rfl rfl (by decide) (r_within (y.1 (m * 8 + l)) 16 _) (fun x2 e2 => ?_)
      refine Rn.br rfl (fun h1 => ?_) (fun h1 => ?_)
      · have hc := ib_eq0.mp (e2 ▸ h1)
        rw [show lnF (a 4) (a 7) (a 8) (a 28) (PO m) m LN i y = y from by unfold lnF; rw [el]; exact if_neg hc] at k2
        iterate 2 refine Rn.step rfl ?_
        exact Rn.sub (by exact ⟨rfl, rfl, rfl, rfl, rfl, rfl, rfl, rfl, trivial⟩) k2
      · have hc := ib_ne0.mp (e2 ▸ h1)
        obtain ⟨hd, hh, ehd⟩ := inB_ex (n := 16) (by decide) hc
        have ecl : (y.1 (m * 8 + l)).toNatClampNeg = hd := by rw [ehd]; exact nI_clamp (by omega)
        have hk2 : lnF (a 4) (a 7) (a 8) (a 28) (PO m) m LN i y = (upd y.1 (m * 8 + l) (nI (mvQ (a 4) (a 7) (a 28) (PO m) m l y.2.2 (y.1 (m * 8 + l))).1), if (mvQ (a 4) (a 7) (a 28) (PO m) m l y.2.2 (y.1 (m * 8 + l))).2 = 0 then y.2.1 else upd y.2.1 (m * 8 + l) (nI (mvQ (a 4) (a 7) (a 28) (PO m) m l y.2.2 (y.1 (m * 8 + l))).2), if nI (mvQ (a 4) (a 7) (a 28) (PO m) m l y.2.2 (y.1 (m * 8 + l))).1 = 16 then y.2.2 else mx0 (nI (mvQ (a 4) (a 7) (a 28) (PO m) m l y.2.2 (y.1 (m * 8 + l))).1 - a 8 l)) := by
          unfold lnF
          rw [el]
          exact if_pos hc
        have hq : mvF (decide (bt (PO m) l)) (fun h => a 28 (m * 16 + h)) (a 7 l) (fun h => decide (¬ nI (h + 1) < y.2.2)) (a 4 hd + ib (bt (PO m) l)) 17 0 hd = (mvQ (a 4) (a 7) (a 28) (PO m) m l y.2.2 (y.1 (m * 8 + l))) := by
          unfold mvQ
          rw [ecl]
        obtain ⟨q, hq2⟩ : ∃ q, q = (mvQ (a 4) (a 7) (a 28) (PO m) m l y.2.2 (y.1 (m * 8 + l))) := ⟨_, rfl⟩
        rw [← hq2] at hk2 hq
        rw [hk2] at k2
        repeat refine Rn.step rfl ?_
        refine Rn.calli rfl rfl rfl (by decide) (r_mov3 (a := (va_up (va_up (va_up (va_up a 34 PO) 32 y.1) 33 y.2.1) 35 LN)) (v := (upd (upd v 9 (nI z)) 10 wt)) hm (by omega) hh y.2.2 ehd) (fun x3 e3 => ?_)
        refine Rn.hp (h2 := wX (va_up (va_up (va_up (va_up a 34 PO) 32 (upd y.1 (m * 8 + l) (nI q.1))) 33 (if q.2 = 0 then y.2.1 else upd y.2.1 (m * 8 + l) (nI q.2))) 35 LN) (upd (upd v 9 (nI z)) 10 wt) t r) (by rw [← hq]; rfl) ?_
        have e3 : x3 = nI q.1 := by rw [← hq]; exact e3
        subst e3
        have fin : ∀ bb : Int32, bb = (if nI q.1 = 16 then y.2.2 else mx0 (nI q.1 - a 8 l)) → Rn E 1 mX0_run (127, [(9, .int (nI q.1)), (8, .int (nI l)), (7, .int (nI i)), (6, .int y.2.2), (5, .int (nI m)), (0, .ref 31), (1, .ref 3), (2, .ref 27), (3, .ref 9), (4, .int kp)], [.int bb], wX (va_up (va_up (va_up (va_up a 34 PO) 32 (upd y.1 (m * 8 + l) (nI q.1))) 33 (if q.2 = 0 then y.2.1 else upd y.2.1 (m * 8 + l) (nI q.2))) 35 LN) (upd (upd v 9 (nI z)) 10 wt) t r) (none, wX (va_up (va_up (va_up (va_up a 34 PO) 32 XF.1) 33 XF.2.1) 35 XF.2.2.1) (upd (upd v 9 (nI XF.2.2.2.1)) 10 XF.2.2.2.2) t r) := by
          intro bb hbb
          rw [← hbb] at k2
          iterate 3 refine Rn.step rfl ?_
          exact Rn.sub (by exact ⟨rfl, rfl, rfl, rfl, rfl, rfl, rfl, rfl, trivial⟩) k2
        repeat refine Rn.step rfl ?_
        refine Rn.br rfl (fun h2 => ?_) (fun h2 => ?_)
        · repeat refine Rn.step rfl ?_
          refine Rn.ald l rfl rfl (by omega) (by decide) ?_
          iterate 3 refine Rn.step rfl ?_
          exact fin _ (if_neg h2).symm
        · iterate 2 refine Rn.step rfl ?_
          exact fin _ (if_pos (Decidable.not_not.mp h2)).symm
    · repeat refine Rn.step rfl ?_
      refine Rn.br1 rfl (Int32.le_refl _) ?_
      refine Rn.step rfl ?_
      have eY : y = mnY n (a 4) (a 7) (a 8) (a 28) PO m (HH, SS, LN, z, wt) := hy
      refine Rn.br rfl (fun h1 => ?_) (fun h1 => ?_)
      · iterate 2 refine Rn.step rfl ?_
        rw [show mnF n (a 4) (a 7) (a 8) (a 6) (a 28) PO m (HH, SS, LN, z, wt) = (y.1, y.2.1, LN, z, wt) from by unfold mnF; rw [← eY]; exact if_neg (Int32.not_lt.mpr h1)] at k1
        exact Rn.sub (by exact ⟨rfl, rfl, rfl, rfl, rfl, rfl, trivial⟩) k1
      · rw [show mnF n (a 4) (a 7) (a 8) (a 6) (a 28) PO m (HH, SS, LN, z, wt) = pnF n m (a 6) (y.1, y.2.1, LN, z, wt) from by unfold mnF; rw [← eY]; exact if_pos (Int32.not_le.mp h1)] at k1
        repeat refine Rn.step rfl ?_
        refine Rn.callv rfl rfl rfl (by decide) (r_put2 (a := (va_up a 34 PO)) (v := v) hn hv4 hm (y.1, y.2.1, LN, z, wt) hz8) ?_
        iterate 2 refine Rn.step rfl ?_
        exact Rn.sub (by exact ⟨rfl, rfl, rfl, rfl, rfl, rfl, trivial⟩) k1
  · repeat refine Rn.step rfl ?_
    have hx1 : x0 = XF := by rw [hXF]; exact hx0
    rw [← hx1]
    exact Rn.ret rfl
end X7
end
section
section X8
variable {E : iExtT} {a : Nat → Nat → Int32} {v : Nat → Int32} {t : Nat → Nat → Int64} {r : List va_E}
theorem Rn.all {hh pc nx : Nat} {M : iMeth} {o : iRes} {L : List (Nat × Value)} {S S' : List Value} {h h2 : List va_E} {i : Int32} {n : Nat} {f : Nat → Int64} (k : Nat) (hst : iStep E iProg M (pc, L, S, h) = if ¬ (i < 0 ∨ n ≤ i.toNatClampNeg) then iNx nx L (.long (f i.toNatClampNeg) :: S') h2 else none) (hi : i = nI k) (hk : k < n) (hn : n < 2 ^ 31) (kk : Rn E hh M (nx, L, .long (f k) :: S', h2) o) : Rn E hh M (pc, L, S, h) o := by
  subst hi
  refine Rn.chk hst (nI_in hk hn) ?_
  rw [nI_clamp (Nat.lt_trans hk hn)]
  exact kk
theorem Rn.asl {hh pc nx : Nat} {M : iMeth} {o : iRes} {L : List (Nat × Value)} {S S' : List Value} {h h2 : List va_E} {i : Int32} {x : Int64} {n A : Nat} {f : Nat → Int64} {h3 : List va_E} (k : Nat) (hst : iStep E iProg M (pc, L, S, h) = if ¬ (i < 0 ∨ n ≤ i.toNatClampNeg) then iNx nx L S' (h2.set A (.inl (1, n, .inr (.inl (vp_updL f i.toNatClampNeg x))))) else none) (hi : i = nI k) (hk : k < n) (hn : n < 2 ^ 31) (he : h2.set A (.inl (1, n, .inr (.inl (vp_updL f k x)))) = h3) (kk : Rn E hh M (nx, L, S', h3) o) : Rn E hh M (pc, L, S, h) o := by
  subst hi
  subst he
  refine Rn.chk hst (nI_in hk hn) ?_
  rw [nI_clamp (Nat.lt_trans hk hn)]
  exact kk
/-- who lies in a span behind a minute -/
abbrev liP (H ta : Nat → Int32) (m : Nat) (sp : Int32) (l : Nat) : Prop := ¬ H (m * 8 + l) = 16 ∧ ¬ H (m * 8 + l) < sp ∧ ¬ sp < H (m * 8 + l) - ta l
def liF (H ta : Nat → Int32) (m : Nat) (sp : Int32) : Nat → Nat → Int32
  | _, 0 => -1
  | i, j + 1 => if liP H ta m sp i then nI i else liF H ta m sp (i + 1) j
def aflF (H : Nat → Int32) (m n : Nat) : Int32 := lp (fun l x => if ¬ H (m * 8 + l) = -1 ∧ ¬ H (m * 8 + l) = 16 then x + 1 else x) 0 n 0
def moF (H : Nat → Int32) (l : Nat) : Nat → Nat → Int32
  | _, 0 => -1
  | i, j + 1 => if H (i * 8 + l) = 16 then nI i else moF H l (i + 1) j
def miF (S : Nat → Int32) (l : Nat) (s : Int32) : Int32 := lp (fun m x => if S (m * 8 + l) = s then x + 1 else x) 0 24 0
def maF (S : Nat → Int32) (n : Nat) (s : Int32) : Int32 := lp (fun l x => x + miF S l s) 0 n 0
def obF (H : Nat → Int32) (n : Nat) : Int32 := lp (fun l x => if H (184 + l) = 16 then x ||| sh1 (nI l) else x) 0 n 0
def trF (H : Nat → Int32) (n m : Nat) : Int64 := lp (fun l x => x <<< ((5 : Int32).toInt64 &&& 63) ||| (H (m * 8 + l) + 1).toInt64) 0 n 0
def trA (H : Nat → Int32) (n fr : Nat) (T : Nat → Int64) : Nat → Int64 := lp (fun m T => vp_updL T (fr + m) (trF H n m)) 0 24 T
def drF (le : Nat → Int32) : Int32 := lp (fun m x => lp (fun s x => if ¬ le (m * 16 + s) ≤ 0 then x &&& (sh1 (nI s) ^^^ -1) else x) 0 16 x) 0 24 65535
theorem r_lier1 {n : Nat} (hn : n ≤ 8) (hv4 : v 4 = nI n) {m : Nat} (hm : m < 24) (sp : Int32) : Rn E 0 mX0_lierIn (0, [(0, .ref 22), (1, .ref 3), (2, .int (nI m)), (3, .int sp)], [], wX a v t r) (some (.int (liF (a 23) (a 8) m sp 0 n)), wX a v t r) := by
  have key : ∀ j i, i + j = n → Rn E 0 mX0_lierIn (3, [(4, .int (nI i)), (0, .ref 22), (1, .ref 3), (2, .int (nI m)), (3, .int sp)], [], wX a v t r) (some (.int (liF (a 23) (a 8) m sp i j)), wX a v t r) := by
    intro j
    induction j with
    | zero =>
      intro i hi
      repeat refine Rn.step rfl ?_
      refine Rn.br1 rfl (by show v 4 ≤ nI i; rw [hv4]; exact nI_le (by omega) (by omega)) ?_
      repeat refine Rn.step rfl ?_
      exact Rn.ret rfl
    | succ j ih =>
      intro i hi
      have k3 := ih (i + 1) (by omega)
      rw [nI_succ] at k3
      repeat refine Rn.step rfl ?_
      refine Rn.br2 rfl (by show ¬ v 4 ≤ nI i; rw [hv4]; exact nle (by omega) (by omega)) ?_
      repeat refine Rn.step rfl ?_
      refine Rn.ald (m * 8 + i) rfl (ix_ma m 8 i) (by omega) (by decide) ?_
      repeat refine Rn.step rfl ?_
      unfold liF
      refine Rn.br rfl (fun h1 => ?_) (fun h1 => ?_)
      · rw [if_neg (fun q => q.1 h1)]
        iterate 2 refine Rn.step rfl ?_
        exact Rn.sub (by exact ⟨rfl, rfl, rfl, rfl, rfl, trivial⟩) k3
      repeat refine Rn.step rfl ?_
      refine Rn.br rfl (fun h2 => ?_) (fun h2 => ?_)
      · rw [if_neg (fun q => q.2.1 h2)]
        iterate 2 refine Rn.step rfl ?_
        exact Rn.sub (by exact ⟨rfl, rfl, rfl, rfl, rfl, trivial⟩) k3
      repeat refine Rn.step rfl ?_
      refine Rn.ald i rfl rfl (by omega) (by decide) ?_
      repeat refine Rn.step rfl ?_
      refine Rn.br rfl (fun h3 => ?_) (fun h3 => ?_)
      · rw [if_neg (fun q => q.2.2 h3)]
        iterate 2 refine Rn.step rfl ?_
        exact Rn.sub (by exact ⟨rfl, rfl, rfl, rfl, rfl, trivial⟩) k3
      · rw [if_pos ⟨h1, h2, h3⟩]
        repeat refine Rn.step rfl ?_
        exact Rn.ret rfl
  iterate 2 refine Rn.step rfl ?_
  exact key n 0 (by omega)
theorem r_minIn1 {l : Nat} (hl : l < 8) (s : Int32) : Rn E 0 mX0_minutesIn (0, [(0, .ref 22), (1, .int (nI l)), (2, .int s)], [], wX a v t r) (some (.int (miF (a 24) l s)), wX a v t r) := by
  iterate 4 refine Rn.step rfl ?_
  refine Rn.lp (σ := Int32) (cfg := fun m x => (5, [(4, .int (nI m)), (3, .int x), (0, .ref 22), (1, .int (nI l)), (2, .int s)], [], wX a v t r)) (f := fun m x => if a 24 (m * 8 + l) = s then x + 1 else x) (n := 24) (fun _ _ => True) (fun m x hm _ => ⟨trivial, fun k => ?_⟩) 24 0 0 rfl trivial (fun x0 hx0 _ => ?_)
  · rw [nI_succ] at k
    repeat refine Rn.step rfl ?_
    refine Rn.br2 rfl (nle hm (by decide)) ?_
    repeat refine Rn.step rfl ?_
    refine Rn.ald (m * 8 + l) rfl (ix_ma m 8 l) (by omega) (by decide) ?_
    repeat refine Rn.step rfl ?_
    refine Rn.br rfl (fun h1 => ?_) (fun h1 => ?_)
    · rw [if_neg h1] at k
      iterate 2 refine Rn.step rfl ?_
      exact k
    · rw [if_pos (Decidable.not_not.mp h1)] at k
      iterate 3 refine Rn.step rfl ?_
      exact k
  · repeat refine Rn.step rfl ?_
    subst hx0
    exact Rn.ret rfl
theorem r_minAll1 {n : Nat} (hn : n ≤ 8) (hv4 : v 4 = nI n) (s : Int32) : Rn E 1 mX0_minutesOfAll (0, [(0, .ref 22), (1, .ref 3), (2, .int s)], [], wX a v t r) (some (.int (maF (a 24) n s)), wX a v t r) := by
  iterate 4 refine Rn.step rfl ?_
  refine Rn.lp (σ := Int32) (cfg := fun l x => (5, [(4, .int (nI l)), (3, .int x), (0, .ref 22), (1, .ref 3), (2, .int s)], [], wX a v t r)) (f := fun l x => x + miF (a 24) l s) (n := n) (fun _ _ => True) (fun l x hl _ => ⟨trivial, fun k => ?_⟩) n 0 0 (by omega) trivial (fun x0 hx0 _ => ?_)
  · rw [nI_succ] at k
    repeat refine Rn.step rfl ?_
    refine Rn.br2 rfl (by show ¬ v 4 ≤ nI l; rw [hv4]; exact nle hl (by omega)) ?_
    repeat refine Rn.step rfl ?_
    refine Rn.calli rfl rfl rfl (by decide) (r_minIn1 (by omega) s) (fun x1 e1 => ?_)
    iterate 4 refine Rn.step rfl ?_
    subst e1
    exact k
  · repeat refine Rn.step rfl ?_
    refine Rn.br1 rfl (by show v 4 ≤ nI n; rw [hv4]; exact Int32.le_refl _) ?_
    repeat refine Rn.step rfl ?_
    subst hx0
    exact Rn.ret rfl
theorem r_outBits1 {n : Nat} (hn : n ≤ 8) (hv4 : v 4 = nI n) : Rn E 0 mX0_outBits (0, [(0, .ref 22), (1, .ref 3)], [], wX a v t r) (some (.int (obF (a 23) n)), wX a v t r) := by
  iterate 4 refine Rn.step rfl ?_
  refine Rn.lp (σ := Int32) (cfg := fun l x => (4, [(3, .int (nI l)), (2, .int x), (0, .ref 22), (1, .ref 3)], [], wX a v t r)) (f := fun l x => if a 23 (184 + l) = 16 then x ||| sh1 (nI l) else x) (n := n) (fun _ _ => True) (fun l x hl _ => ⟨trivial, fun k => ?_⟩) n 0 0 (by omega) trivial (fun x0 hx0 _ => ?_)
  · rw [nI_succ] at k
    repeat refine Rn.step rfl ?_
    refine Rn.br2 rfl (by show ¬ v 4 ≤ nI l; rw [hv4]; exact nle hl (by omega)) ?_
    repeat refine Rn.step rfl ?_
    refine Rn.ald (184 + l) rfl (nI_add 184 l) (by omega) (by decide) ?_
    repeat refine Rn.step rfl ?_
    refine Rn.br rfl (fun h1 => ?_) (fun h1 => ?_)
    · rw [if_neg h1] at k
      iterate 2 refine Rn.step rfl ?_
      exact k
    · rw [if_pos (Decidable.not_not.mp h1)] at k
      iterate 8 refine Rn.step rfl ?_
      exact k
  · repeat refine Rn.step rfl ?_
    refine Rn.br1 rfl (by show v 4 ≤ nI n; rw [hv4]; exact Int32.le_refl _) ?_
    repeat refine Rn.step rfl ?_
    subst hx0
    exact Rn.ret rfl
theorem r_lier2 {n : Nat} (hn : n ≤ 8) (hv4 : v 4 = nI n) {m : Nat} (hm : m < 24) (sp : Int32) : Rn E 0 mX0_lierIn (0, [(0, .ref 31), (1, .ref 3), (2, .int (nI m)), (3, .int sp)], [], wX a v t r) (some (.int (liF (a 32) (a 8) m sp 0 n)), wX a v t r) := by
  have key : ∀ j i, i + j = n → Rn E 0 mX0_lierIn (3, [(4, .int (nI i)), (0, .ref 31), (1, .ref 3), (2, .int (nI m)), (3, .int sp)], [], wX a v t r) (some (.int (liF (a 32) (a 8) m sp i j)), wX a v t r) := by
    intro j
    induction j with
    | zero =>
      intro i hi
      repeat refine Rn.step rfl ?_
      refine Rn.br1 rfl (by show v 4 ≤ nI i; rw [hv4]; exact nI_le (by omega) (by omega)) ?_
      repeat refine Rn.step rfl ?_
      exact Rn.ret rfl
    | succ j ih =>
      intro i hi
      have k3 := ih (i + 1) (by omega)
      rw [nI_succ] at k3
      repeat refine Rn.step rfl ?_
      refine Rn.br2 rfl (by show ¬ v 4 ≤ nI i; rw [hv4]; exact nle (by omega) (by omega)) ?_
      repeat refine Rn.step rfl ?_
      refine Rn.ald (m * 8 + i) rfl (ix_ma m 8 i) (by omega) (by decide) ?_
      repeat refine Rn.step rfl ?_
      unfold liF
      refine Rn.br rfl (fun h1 => ?_) (fun h1 => ?_)
      · rw [if_neg (fun q => q.1 h1)]
        iterate 2 refine Rn.step rfl ?_
        exact Rn.sub (by exact ⟨rfl, rfl, rfl, rfl, rfl, trivial⟩) k3
      repeat refine Rn.step rfl ?_
      refine Rn.br rfl (fun h2 => ?_) (fun h2 => ?_)
      · rw [if_neg (fun q => q.2.1 h2)]
        iterate 2 refine Rn.step rfl ?_
        exact Rn.sub (by exact ⟨rfl, rfl, rfl, rfl, rfl, trivial⟩) k3
      repeat refine Rn.step rfl ?_
      refine Rn.ald i rfl rfl (by omega) (by decide) ?_
      repeat refine Rn.step rfl ?_
      refine Rn.br rfl (fun h3 => ?_) (fun h3 => ?_)
      · rw [if_neg (fun q => q.2.2 h3)]
        iterate 2 refine Rn.step rfl ?_
        exact Rn.sub (by exact ⟨rfl, rfl, rfl, rfl, rfl, trivial⟩) k3
      · rw [if_pos ⟨h1, h2, h3⟩]
        repeat refine Rn.step rfl ?_
        exact Rn.ret rfl
  iterate 2 refine Rn.step rfl ?_
  exact key n 0 (by omega)
theorem r_minIn2 {l : Nat} (hl : l < 8) (s : Int32) : Rn E 0 mX0_minutesIn (0, [(0, .ref 31), (1, .int (nI l)), (2, .int s)], [], wX a v t r) (some (.int (miF (a 33) l s)), wX a v t r) := by
  iterate 4 refine Rn.step rfl ?_
  refine Rn.lp (σ := Int32) (cfg := fun m x => (5, [(4, .int (nI m)), (3, .int x), (0, .ref 31), (1, .int (nI l)), (2, .int s)], [], wX a v t r)) (f := fun m x => if a 33 (m * 8 + l) = s then x + 1 else x) (n := 24) (fun _ _ => True) (fun m x hm _ => ⟨trivial, fun k => ?_⟩) 24 0 0 rfl trivial (fun x0 hx0 _ => ?_)
  · rw [nI_succ] at k
    repeat refine Rn.step rfl ?_
    refine Rn.br2 rfl (nle hm (by decide)) ?_
    repeat refine Rn.step rfl ?_
    refine Rn.ald (m * 8 + l) rfl (ix_ma m 8 l) (by omega) (by decide) ?_
    repeat refine Rn.step rfl ?_
    refine Rn.br rfl (fun h1 => ?_) (fun h1 => ?_)
    · rw [if_neg h1] at k
      iterate 2 refine Rn.step rfl ?_
      exact k
    · rw [if_pos (Decidable.not_not.mp h1)] at k
      iterate 3 refine Rn.step rfl ?_
      exact k
  · repeat refine Rn.step rfl ?_
    subst hx0
    exact Rn.ret rfl
theorem r_minAll2 {n : Nat} (hn : n ≤ 8) (hv4 : v 4 = nI n) (s : Int32) : Rn E 1 mX0_minutesOfAll (0, [(0, .ref 31), (1, .ref 3), (2, .int s)], [], wX a v t r) (some (.int (maF (a 33) n s)), wX a v t r) := by
  iterate 4 refine Rn.step rfl ?_
  refine Rn.lp (σ := Int32) (cfg := fun l x => (5, [(4, .int (nI l)), (3, .int x), (0, .ref 31), (1, .ref 3), (2, .int s)], [], wX a v t r)) (f := fun l x => x + miF (a 33) l s) (n := n) (fun _ _ => True) (fun l x hl _ => ⟨trivial, fun k => ?_⟩) n 0 0 (by omega) trivial (fun x0 hx0 _ => ?_)
  · rw [nI_succ] at k
    repeat refine Rn.step rfl ?_
    refine Rn.br2 rfl (by show ¬ v 4 ≤ nI l; rw [hv4]; exact nle hl (by omega)) ?_
    repeat refine Rn.step rfl ?_
    refine Rn.calli rfl rfl rfl (by decide) (r_minIn2 (by omega) s) (fun x1 e1 => ?_)
    iterate 4 refine Rn.step rfl ?_
    subst e1
    exact k
  · repeat refine Rn.step rfl ?_
    refine Rn.br1 rfl (by show v 4 ≤ nI n; rw [hv4]; exact Int32.le_refl _) ?_
    repeat refine Rn.step rfl ?_
    subst hx0
    exact Rn.ret rfl
theorem r_outBits2 {n : Nat} (hn : n ≤ 8) (hv4 : v 4 = nI n) : Rn E 0 mX0_outBits (0, [(0, .ref 31), (1, .ref 3)], [], wX a v t r) (some (.int (obF (a 32) n)), wX a v t r) := by
  iterate 4 refine Rn.step rfl ?_
  refine Rn.lp (σ := Int32) (cfg := fun l x => (4, [(3, .int (nI l)), (2, .int x), (0, .ref 31), (1, .ref 3)], [], wX a v t r)) (f := fun l x => if a 32 (184 + l) = 16 then x ||| sh1 (nI l) else x) (n := n) (fun _ _ => True) (fun l x hl _ => ⟨trivial, fun k => ?_⟩) n 0 0 (by omega) trivial (fun x0 hx0 _ => ?_)
  · rw [nI_succ] at k
    repeat refine Rn.step rfl ?_
    refine Rn.br2 rfl (by show ¬ v 4 ≤ nI l; rw [hv4]; exact nle hl (by omega)) ?_
    repeat refine Rn.step rfl ?_
    refine Rn.ald (184 + l) rfl (nI_add 184 l) (by omega) (by decide) ?_
    repeat refine Rn.step rfl ?_
    refine Rn.br rfl (fun h1 => ?_) (fun h1 => ?_)
    · rw [if_neg h1] at k
      iterate 2 refine Rn.step rfl ?_
      exact k
    · rw [if_pos (Decidable.not_not.mp h1)] at k
      iterate 8 refine Rn.step rfl ?_
      exact k
  · repeat refine Rn.step rfl ?_
    refine Rn.br1 rfl (by show v 4 ≤ nI n; rw [hv4]; exact Int32.le_refl _) ?_
    repeat refine Rn.step rfl ?_
    subst hx0
    exact Rn.ret rfl
theorem r_afloat {n : Nat} (hn : n ≤ 8) (hv4 : v 4 = nI n) {m : Nat} (hm : m < 24) : Rn E 0 mX0_afloatOrLying (0, [(0, .ref 22), (1, .ref 3), (2, .int (nI m))], [], wX a v t r) (some (.int (aflF (a 23) m n)), wX a v t r) := by
  iterate 4 refine Rn.step rfl ?_
  refine Rn.lp (σ := Int32) (cfg := fun l x => (5, [(4, .int (nI l)), (3, .int x), (0, .ref 22), (1, .ref 3), (2, .int (nI m))], [], wX a v t r)) (f := fun l x => if ¬ a 23 (m * 8 + l) = -1 ∧ ¬ a 23 (m * 8 + l) = 16 then x + 1 else x) (n := n) (fun _ _ => True) (fun l x hl _ => ⟨trivial, fun k => ?_⟩) n 0 0 (by omega) trivial (fun x0 hx0 _ => ?_)
  · rw [nI_succ] at k
    repeat refine Rn.step rfl ?_
    refine Rn.br2 rfl (by show ¬ v 4 ≤ nI l; rw [hv4]; exact nle hl (by omega)) ?_
    repeat refine Rn.step rfl ?_
    refine Rn.ald (m * 8 + l) rfl (ix_ma m 8 l) (by omega) (by decide) ?_
    repeat refine Rn.step rfl ?_
    refine Rn.br rfl (fun h1 => ?_) (fun h1 => ?_)
    · rw [if_neg (fun q => q.1 h1)] at k
      iterate 2 refine Rn.step rfl ?_
      exact Rn.sub (by exact ⟨rfl, rfl, rfl, rfl, rfl, trivial⟩) k
    repeat refine Rn.step rfl ?_
    refine Rn.br rfl (fun h2 => ?_) (fun h2 => ?_)
    · rw [if_neg (fun q => q.2 h2)] at k
      iterate 2 refine Rn.step rfl ?_
      exact Rn.sub (by exact ⟨rfl, rfl, rfl, rfl, rfl, trivial⟩) k
    · rw [if_pos ⟨h1, h2⟩] at k
      iterate 3 refine Rn.step rfl ?_
      exact Rn.sub (by exact ⟨rfl, rfl, rfl, rfl, rfl, trivial⟩) k
  · repeat refine Rn.step rfl ?_
    refine Rn.br1 rfl (by show v 4 ≤ nI n; rw [hv4]; exact Int32.le_refl _) ?_
    repeat refine Rn.step rfl ?_
    subst hx0
    exact Rn.ret rfl
theorem r_minOut {l : Nat} (hl : l < 8) : Rn E 0 mX0_minuteOut (0, [(0, .ref 22), (1, .int (nI l))], [], wX a v t r) (some (.int (moF (a 23) l 0 24)), wX a v t r) := by
  have key : ∀ j i, i + j = 24 → Rn E 0 mX0_minuteOut (2, [(2, .int (nI i)), (0, .ref 22), (1, .int (nI l))], [], wX a v t r) (some (.int (moF (a 23) l i j)), wX a v t r) := by
    intro j
    induction j with
    | zero =>
      intro i hi
      obtain rfl : i = 24 := by omega
      repeat refine Rn.step rfl ?_
      exact Rn.ret rfl
    | succ j ih =>
      intro i hi
      have k3 := ih (i + 1) (by omega)
      rw [nI_succ] at k3
      repeat refine Rn.step rfl ?_
      refine Rn.br2 rfl (nle (n := 24) (by omega) (by decide)) ?_
      repeat refine Rn.step rfl ?_
      refine Rn.ald (i * 8 + l) rfl (ix_ma i 8 l) (by omega) (by decide) ?_
      repeat refine Rn.step rfl ?_
      unfold moF
      refine Rn.br rfl (fun h1 => ?_) (fun h1 => ?_)
      · rw [if_neg h1]
        iterate 2 refine Rn.step rfl ?_
        exact k3
      · rw [if_pos (Decidable.not_not.mp h1)]
        repeat refine Rn.step rfl ?_
        exact Rn.ret rfl
  iterate 2 refine Rn.step rfl ?_
  exact key 24 0 rfl
theorem r_trace {n : Nat} (hn : n ≤ 8) (hv4 : v 4 = nI n) {fr : Nat} (hf : fr + 24 ≤ 240) : Rn E 1 mX0_trace (0, [(0, .ref 31), (1, .ref 3), (2, .ref 38), (3, .int (nI fr))], [], wX a v t r) (none, wX a v (va_up t 0 (trA (a 32) n fr (t 0))) r) := by
  iterate 2 refine Rn.step rfl ?_
  refine Rn.lp (σ := Nat → Int64) (cfg := fun m T => (3, [(4, .int (nI m)), (0, .ref 31), (1, .ref 3), (2, .ref 38), (3, .int (nI fr))], [], wX a v (va_up t 0 T) r)) (f := fun m T => vp_updL T (fr + m) (trF (a 32) n m)) (n := 24) (fun _ _ => True) (fun m T hm _ => ⟨trivial, fun k => ?_⟩) 24 0 (t 0) rfl trivial (fun T0 hT0 _ => ?_)
  · rw [nI_succ] at k
    repeat refine Rn.step rfl ?_
    refine Rn.br2 rfl (nle hm (by decide)) ?_
    repeat refine Rn.step rfl ?_
    refine Rn.calli rfl rfl rfl (by decide) (r_within (nI fr + nI m) (nI 240) _) (fun x1 e1 => ?_)
    refine Rn.br2 rfl (by rw [e1, ib_eq0, nI_add]; exact fun q => q (inB_nI (by omega) (by decide))) ?_
    iterate 4 refine Rn.step rfl ?_
    refine Rn.lp (σ := Int64) (cfg := fun l x => (28, [(7, .int (nI l)), (5, .long x), (4, .int (nI m)), (0, .ref 31), (1, .ref 3), (2, .ref 38), (3, .int (nI fr))], [], wX a v (va_up t 0 T) r)) (f := fun l x => x <<< ((5 : Int32).toInt64 &&& 63) ||| (a 32 (m * 8 + l) + 1).toInt64) (n := n) (fun _ _ => True) (fun l x hl _ => ⟨trivial, fun k2 => ?_⟩) n 0 0 (by omega) trivial (fun x0 hx0 _ => ?_)
    · rw [nI_succ] at k2
      repeat refine Rn.step rfl ?_
      refine Rn.br2 rfl (by show ¬ v 4 ≤ nI l; rw [hv4]; exact nle hl (by omega)) ?_
      repeat refine Rn.step rfl ?_
      refine Rn.ald (m * 8 + l) rfl (ix_ma m 8 l) (by omega) (by decide) ?_
      iterate 7 refine Rn.step rfl ?_
      exact k2
    · repeat refine Rn.step rfl ?_
      refine Rn.br1 rfl (by show v 4 ≤ nI n; rw [hv4]; exact Int32.le_refl _) ?_
      repeat refine Rn.step rfl ?_
      refine Rn.asl (fr + m) rfl (nI_add fr m) (by omega) (by decide) (h3 := wX a v (va_up t 0 (vp_updL T (fr + m) x0)) r) rfl ?_
      iterate 2 refine Rn.step rfl ?_
      subst hx0
      exact Rn.sub (by exact ⟨rfl, rfl, rfl, rfl, rfl, trivial⟩) k
  · repeat refine Rn.step rfl ?_
    have h1 : T0 = trA (a 32) n fr (t 0) := hT0
    rw [← h1]
    exact Rn.ret rfl
theorem r_dryBits : Rn E 0 mX6_dryBits (0, [(0, .ref 18)], [], wX a v t r) (some (.int (drF (a 19))), wX a v t r) := by
  iterate 4 refine Rn.step rfl ?_
  refine Rn.lp (σ := Int32) (cfg := fun m x => (5, [(2, .int (nI m)), (1, .int x), (0, .ref 18)], [], wX a v t r)) (f := fun m x => lp (fun s x => if ¬ a 19 (m * 16 + s) ≤ 0 then x &&& (sh1 (nI s) ^^^ -1) else x) 0 16 x) (n := 24) (fun _ _ => True) (fun m x hm _ => ⟨trivial, fun k => ?_⟩) 24 0 65535 rfl trivial (fun x0 hx0 _ => ?_)
  · rw [nI_succ] at k
    repeat refine Rn.step rfl ?_
    refine Rn.br2 rfl (nle hm (by decide)) ?_
    iterate 2 refine Rn.step rfl ?_
    refine Rn.lp (σ := Int32) (cfg := fun s x => (13, [(3, .int (nI s)), (2, .int (nI m)), (1, .int x), (0, .ref 18)], [], wX a v t r)) (f := fun s x => if ¬ a 19 (m * 16 + s) ≤ 0 then x &&& (sh1 (nI s) ^^^ -1) else x) (n := 16) (fun _ _ => True) (fun s x hs _ => ⟨trivial, fun k2 => ?_⟩) 16 0 x rfl trivial (fun x0 hx0 _ => ?_)
    · rw [nI_succ] at k2
      repeat refine Rn.step rfl ?_
      refine Rn.br2 rfl (nle hs (by decide)) ?_
      repeat refine Rn.step rfl ?_
      refine Rn.ald (m * 16 + s) rfl (ix_ma m 16 s) (by omega) (by decide) ?_
      refine Rn.br rfl (fun h1 => ?_) (fun h1 => ?_)
      · rw [if_neg (fun q => q h1)] at k2
        iterate 2 refine Rn.step rfl ?_
        exact k2
      · rw [if_pos h1] at k2
        iterate 10 refine Rn.step rfl ?_
        exact Rn.sub (by exact ⟨rfl, rfl, rfl, rfl, trivial⟩) k2
    · iterate 5 refine Rn.step rfl ?_
      subst hx0
      exact Rn.sub (by exact ⟨rfl, rfl, rfl, trivial⟩) k
  · repeat refine Rn.step rfl ?_
    subst hx0
    exact Rn.ret rfl
theorem r_siFull (x y z : Int32) (hv : v 6 = nI 8) : Rn E 1 mX3_append (0, [(0, .ref 13), (1, .int x), (2, .int y), (3, .int z)], [], wX a v t r) (some (.int 0), wX a v t r) := by
  repeat refine Rn.step rfl ?_
  refine Rn.calli rfl rfl rfl (by decide) (r_within (v 6) 8 _) (fun x1 e1 => ?_)
  refine Rn.br2 rfl (by rw [e1, ib_ne0, hv]; decide) ?_
  refine Rn.step rfl ?_
  exact Rn.ret rfl
abbrev si8 (z : Int32) : Int32 := if z = 8 then -1 else z
theorem r_siAppend (x y z : Int32) {k : Nat} (hk : k < 8) (hv : v 6 = nI k) : Rn E 1 mX3_append (0, [(0, .ref 13), (1, .int x), (2, .int y), (3, .int z)], [], wX a v t r) (some (.int 1), wX (va_up (va_up (va_up a 14 (upd (a 14) k x)) 15 (upd (a 15) k y)) 16 (upd (a 16) k (si8 z))) (upd v 6 (nI (k + 1))) t r) := by
  repeat refine Rn.step rfl ?_
  refine Rn.calli rfl rfl rfl (by decide) (r_within (v 6) 8 _) (fun x1 e1 => ?_)
  refine Rn.br1 rfl (by rw [e1, ib_ne0, hv]; exact inB_nI hk (by decide)) ?_
  repeat refine Rn.step rfl ?_
  refine Rn.ast k rfl hv hk (by decide) (h3 := wX (va_up a 14 (upd (a 14) k x)) v t r) rfl ?_
  repeat refine Rn.step rfl ?_
  refine Rn.ast k rfl hv hk (by decide) (h3 := wX (va_up (va_up a 14 (upd (a 14) k x)) 15 (upd (a 15) k y)) v t r) rfl ?_
  have fin : ∀ q : Int32, q = si8 z → Rn E 1 mX3_append (53, [(0, .ref 13), (1, .int x), (2, .int y), (3, .int z)], [.int q, .int (v 6), .ref 16], wX (va_up (va_up a 14 (upd (a 14) k x)) 15 (upd (a 15) k y)) v t r) (some (.int 1), wX (va_up (va_up (va_up a 14 (upd (a 14) k x)) 15 (upd (a 15) k y)) 16 (upd (a 16) k (si8 z))) (upd v 6 (nI (k + 1))) t r) := by
    intro q hq
    rw [← hq]
    refine Rn.ast k rfl hv hk (by decide) (h3 := wX (va_up (va_up (va_up a 14 (upd (a 14) k x)) 15 (upd (a 15) k y)) 16 (upd (a 16) k q)) v t r) rfl ?_
    iterate 5 refine Rn.step rfl ?_
    refine Rn.top (x' := nI (k + 1)) (by show v 6 + 1 = _; rw [hv, nI_1]) ?_
    iterate 2 refine Rn.step rfl ?_
    exact Rn.ret rfl
  repeat refine Rn.step rfl ?_
  refine Rn.br rfl (fun h1 => ?_) (fun h1 => ?_)
  · refine Rn.step rfl ?_
    exact fin _ (if_neg h1).symm
  · iterate 2 refine Rn.step rfl ?_
    exact fin _ (if_pos (Decidable.not_not.mp h1)).symm
def ftB (H ta : Nat → Int32) (n : Nat) (sm : Nat → Nat) (ss sl : Nat → Int32) : Nat → Nat → Bool
  | _, 0 => true
  | i, j + 1 => decide (liF H ta (sm i) (ss i) 0 n = sl i) && ftB H ta n sm ss sl (i + 1) j
theorem r_fit {n : Nat} (hn : n ≤ 8) (hv4 : v 4 = nI n) {k : Nat} (hk : k ≤ 8) (hv6 : v 6 = nI k) {sm : Nat → Nat} (hsm : ∀ i, i < k → a 14 i = nI (sm i) ∧ sm i < 24) : Rn E 1 mX3_fit (0, [(0, .ref 13), (1, .ref 3), (2, .ref 31)], [], wX a v t r) (some (.int (ib (ftB (a 32) (a 8) n sm (a 15) (a 16) 0 k = true))), wX a v t r) := by
  have key : ∀ j i, i + j = k → Rn E 1 mX3_fit (2, [(3, .int (nI i)), (0, .ref 13), (1, .ref 3), (2, .ref 31)], [], wX a v t r) (some (.int (ib (ftB (a 32) (a 8) n sm (a 15) (a 16) i j = true))), wX a v t r) := by
    intro j
    induction j with
    | zero =>
      intro i hi
      repeat refine Rn.step rfl ?_
      refine Rn.br1 rfl (by show v 6 ≤ nI i; rw [hv6]; exact nI_le (by omega) (by omega)) ?_
      repeat refine Rn.step rfl ?_
      rw [ib_t (p := ftB (a 32) (a 8) n sm (a 15) (a 16) i 0 = true) rfl]
      exact Rn.ret rfl
    | succ j ih =>
      intro i hi
      have k3 := ih (i + 1) (by omega)
      rw [nI_succ] at k3
      repeat refine Rn.step rfl ?_
      refine Rn.br2 rfl (by show ¬ v 6 ≤ nI i; rw [hv6]; exact nle (by omega) (by omega)) ?_
      repeat refine Rn.step rfl ?_
      refine Rn.br2 rfl (nle (n := 8) (by omega) (by decide)) ?_
      repeat refine Rn.step rfl ?_
      refine Rn.ald i rfl rfl (by omega) (by decide) ?_
      refine Rn.top (hsm i (by omega)).1 ?_
      repeat refine Rn.step rfl ?_
      refine Rn.ald i rfl rfl (by omega) (by decide) ?_
      refine Rn.calli rfl rfl rfl (by decide) (r_lier2 hn hv4 (hsm i (by omega)).2 (a 15 i)) (fun x1 e1 => ?_)
      repeat refine Rn.step rfl ?_
      refine Rn.ald i rfl rfl (by omega) (by decide) ?_
      refine Rn.br rfl (fun h1 => ?_) (fun h1 => ?_)
      · have hd : decide (liF (a 32) (a 8) (sm i) (a 15 i) 0 n = a 16 i) = true := decide_eq_true (e1 ▸ h1)
        rw [show ftB (a 32) (a 8) n sm (a 15) (a 16) i (j + 1) = ftB (a 32) (a 8) n sm (a 15) (a 16) (i + 1) j from by unfold ftB; rw [hd, Bool.true_and]; cases j <;> rfl]
        iterate 2 refine Rn.step rfl ?_
        exact k3
      · have hd : decide (liF (a 32) (a 8) (sm i) (a 15 i) 0 n = a 16 i) = false := decide_eq_false (e1 ▸ h1)
        rw [show ftB (a 32) (a 8) n sm (a 15) (a 16) i (j + 1) = false from by unfold ftB; rw [hd, Bool.false_and], ib_f (by decide)]
        repeat refine Rn.step rfl ?_
        exact Rn.ret rfl
  iterate 2 refine Rn.step rfl ?_
  exact key k 0 (by omega)
end X8
end
section
/-! what was there before doesn't matter: rows are written anew -/
theorem lp_rel {σ τ : Type} {f : Nat → σ → σ} {g : Nat → τ → τ} (R : Nat → σ → τ → Prop) {i j : Nat} {s : σ} {u : τ} (h0 : R i s u) (h : ∀ k s u, i ≤ k → k < i + j → R k s u → R (k + 1) (f k s) (g k u)) : R (i + j) (lp f i j s) (lp g i j u) := by
  induction j with
  | zero => exact h0
  | succ j ih =>
    rw [lp_end, lp_end]
    exact h (i + j) _ _ (by omega) (by omega) (ih (fun k s u h1 h2 => h k s u h1 (by omega)))
theorem upd_in {f : Nat → Int32} {k j : Nat} {x : Int32} : upd f k x j = if j = k then x else f j := rfl
theorem zero_row (f : Nat → Int32) {m : Nat} (hm : m < 24) : lp (fun m g => upd g m 0) 0 24 f m = 0 := by
  have h := lp_inv (f := fun m g => upd g m 0) (fun i g => ∀ m, m < i → g m = 0) (i := 0) (j := 24) (s := f) (fun m h => absurd h (Nat.not_lt_zero _)) (fun k g _ _ hI m hm => by
    by_cases hx : m = k
    · subst hx; exact pk_us
    · rw [pk_un hx]; exact hI m (by omega))
  exact h m (by omega)
theorem mk_ind {kda : Nat → Int32} {mn : Nat → Nat} {nu : Nat → Int32} {k : Nat} {kd kp : Int32} (f g : Nat → Int32) {m : Nat} (hm : m < 24) (hmn : ∀ e, e < k → mn e < 24) : mkA kda mn nu k kd kp f m = mkA kda mn nu k kd kp g m := by
  unfold mkA
  have key := lp_rel (σ := Nat → Int32) (τ := Nat → Int32) (f := fun e g => if kda e = kd ∧ bt kp e then upd g (mn e) (g (mn e) ||| sh1 (nu e)) else g) (g := fun e g => if kda e = kd ∧ bt kp e then upd g (mn e) (g (mn e) ||| sh1 (nu e)) else g) (fun _ s u => ∀ m, m < 24 → s m = u m) (i := 0) (j := k) (s := lp (fun m g => upd g m 0) 0 24 f) (u := lp (fun m g => upd g m 0) 0 24 g) (fun m hm => by rw [zero_row f hm, zero_row g hm]) (fun e s u _ he hR m hm => ?_)
  · exact key m hm
  · have he' := hmn e (by omega)
    split
    · by_cases hx : m = mn e
      · subst hx; rw [pk_us, pk_us, hR _ he']
      · rw [pk_un hx, pk_un hx]; exact hR m hm
    · exact hR m hm
theorem cel_ind {fe sh bu fe' sh' bu' : Nat → Int32} {m s : Nat} {g g' : Nat → Int32} (hfe : fe s = fe' s) (hsh : sh m = sh' m) (hbu : bu m = bu' m) (hg : 0 < m → 0 < s → g ((m - 1) * 16 + (s - 1)) = g' ((m - 1) * 16 + (s - 1))) : cel fe sh bu m s g = cel fe' sh' bu' m s g' := by
  have e0 : cel0 m s g = cel0 m s g' := by
    unfold cel0
    split
    · rename_i h; exact hg h.1 h.2
    · rfl
  unfold cel cel2
  rw [e0, hfe, hsh, hbu]
theorem wl_ind {fe sh bu fe' sh' bu' : Nat → Int32} (f g : Nat → Int32) (hfe : ∀ s, s < 16 → fe s = fe' s) (hsh : ∀ m, m < 24 → sh m = sh' m) (hbu : ∀ m, m < 24 → bu m = bu' m) {j : Nat} (hj : j < 384) : wlA fe sh bu f j = wlA fe' sh' bu' g j := by
  unfold wlA
  have key := lp_rel (f := fun m g => lp (fun s g => upd g (m * 16 + s) (cel fe sh bu m s g)) 0 16 g) (g := fun m g => lp (fun s g => upd g (m * 16 + s) (cel fe' sh' bu' m s g)) 0 16 g) (fun m s u => ∀ j, j < m * 16 → s j = u j) (i := 0) (j := 24) (s := f) (u := g) (fun j h => absurd h (by omega)) (fun m s u _ hm hR => ?_)
  · exact key j (by omega)
  · have k2 := lp_rel (f := fun s g => upd g (m * 16 + s) (cel fe sh bu m s g)) (g := fun s g => upd g (m * 16 + s) (cel fe' sh' bu' m s g)) (fun c s u => ∀ j, j < m * 16 + c → s j = u j) (i := 0) (j := 16) (s := s) (u := u) (fun j h => hR j (by omega)) (fun c s u _ hc hR2 j hj => ?_)
    · intro j hj
      exact k2 j (by omega)
    · have ec : cel fe sh bu m c s = cel fe' sh' bu' m c u := cel_ind (hfe c (by omega)) (hsh m (by omega)) (hbu m (by omega)) (fun h1 h2 => hR2 _ (by omega))
      rw [ec]
      by_cases hx : j = m * 16 + c
      · subst hx; rw [pk_us, pk_us]
      · rw [pk_un hx, pk_un hx]; exact hR2 j (by omega)
/-- two drives agree on what is told of n logs before minute m -/
def dRel (n m : Nat) (x y : dS) : Prop := (∀ i l, i < m → l < n → x.1 (i * 8 + l) = y.1 (i * 8 + l) ∧ x.2.1 (i * 8 + l) = y.2.1 (i * 8 + l)) ∧ (∀ i, i < x.2.2.2.1 → x.2.2.1 i = y.2.2.1 i) ∧ x.2.2.2.1 = y.2.2.2.1 ∧ x.2.2.2.2 = y.2.2.2.2
theorem row_ne {m i l l' : Nat} (h1 : l < 8) (h2 : l' < 8) (h : i < m) : i * 8 + l ≠ m * 8 + l' := by omega
theorem bm_rel {n m : Nat} (hn : n ≤ 8) {x y : f2} (h : ∀ i l, i < m → l < n → x.1 (i * 8 + l) = y.1 (i * 8 + l) ∧ x.2 (i * 8 + l) = y.2 (i * 8 + l)) : ∀ i l, i < m + 1 → l < n → (bmF n m x).1 (i * 8 + l) = (bmF n m y).1 (i * 8 + l) ∧ (bmF n m x).2 (i * 8 + l) = (bmF n m y).2 (i * 8 + l) := by
  unfold bmF
  have key := lp_rel (f := fun l (s : f2) => (upd s.1 (m * 8 + l) (if 0 < m then s.1 ((m - 1) * 8 + l) else -1), upd s.2 (m * 8 + l) 0)) (g := fun l (s : f2) => (upd s.1 (m * 8 + l) (if 0 < m then s.1 ((m - 1) * 8 + l) else -1), upd s.2 (m * 8 + l) 0)) (fun c s u => (∀ i l, i < m → l < n → s.1 (i * 8 + l) = u.1 (i * 8 + l) ∧ s.2 (i * 8 + l) = u.2 (i * 8 + l)) ∧ ∀ l, l < c → s.1 (m * 8 + l) = u.1 (m * 8 + l) ∧ s.2 (m * 8 + l) = u.2 (m * 8 + l)) (i := 0) (j := n) (s := x) (u := y) ⟨h, fun l hl => absurd hl (Nat.not_lt_zero _)⟩ (fun c s u _ hc hR => ?_)
  · intro i l hi hl
    rcases Nat.lt_or_ge i m with q | q
    · exact key.1 i l q hl
    · obtain rfl : i = m := by omega
      exact key.2 l (by omega)
  · dsimp only
    refine ⟨fun i l hi hl => ?_, fun l hl => ?_⟩
    · have hne := row_ne (l := l) (l' := c) (by omega) (by omega) hi
      rw [pk_un hne, pk_un hne, pk_un hne, pk_un hne]
      exact hR.1 i l hi hl
    · by_cases hx : l = c
      · subst hx
        rw [pk_us, pk_us, pk_us, pk_us]
        refine ⟨?_, rfl⟩
        split
        · exact (hR.1 (m - 1) l (by omega) (by omega)).1
        · rfl
      · have hne : m * 8 + l ≠ m * 8 + c := by omega
        rw [pk_un hne, pk_un hne, pk_un hne, pk_un hne]
        exact hR.2 l (by omega)
theorem mvF_congr {po : Bool} {wl wl' : Nat → Int32} {de : Int32} {blk : Nat → Bool} {steps : Int32} (h : ∀ k, k < 16 → wl k = wl' k) : ∀ (f k hd : Nat), mvF po wl de blk steps f k hd = mvF po wl' de blk steps f k hd := by
  intro f
  induction f with
  | zero => intro k hd; rfl
  | succ f ih =>
    intro k hd
    unfold mvF
    by_cases hc : steps ≤ nI k ∨ 16 ≤ hd
    · rw [if_pos hc, if_pos hc]
    · rw [if_neg hc, if_neg hc, h hd (by omega), ih]
abbrev y3 : Type := (Nat → Int32) × (Nat → Int32) × Int32
def yRel (n m : Nat) (x y : y3) : Prop := (∀ i l, i < m + 1 → l < n → x.1 (i * 8 + l) = y.1 (i * 8 + l) ∧ x.2.1 (i * 8 + l) = y.2.1 (i * 8 + l)) ∧ x.2.2 = y.2.2
/-- the drive's data agree, where a drive of n logs looks -/
def tRel (n : Nat) (sl de ta st wl po sl' de' ta' st' wl' po' : Nat → Int32) : Prop := (∀ s, s < 16 → sl s = sl' s) ∧ (∀ l, l < n → de l = de' l ∧ ta l = ta' l ∧ st l = st' l) ∧ (∀ j, j < 384 → wl j = wl' j) ∧ ∀ m, m < 24 → po m = po' m
theorem ln_rel {n m : Nat} (hn : n ≤ 8) (hm : m < 24) {sl de ta st wl po sl' de' ta' st' wl' po' : Nat → Int32} (hT : tRel n sl de ta st wl po sl' de' ta' st' wl' po') {LN LN' : Nat → Int32} {i l : Nat} (hl : l < n) (e1 : LN i = nI l) (e2 : LN' i = nI l) {x y : y3} (h : yRel n m x y) : yRel n m (lnF sl de ta wl (po m) m LN i x) (lnF sl' de' ta' wl' (po' m) m LN' i y) := by
  have c1 : (LN i).toNatClampNeg = l := by rw [e1]; exact nI_clamp (by omega)
  have c2 : (LN' i).toNatClampNeg = l := by rw [e2]; exact nI_clamp (by omega)
  have eH := (h.1 m l (by omega) hl).1
  unfold lnF
  rw [c1, c2, ← eH, ← h.2]
  split
  · rename_i hB
    obtain ⟨hd, hh, ehd⟩ := inB_ex (n := 16) (by decide) hB
    have ecl : (x.1 (m * 8 + l)).toNatClampNeg = hd := by rw [ehd]; exact nI_clamp (by omega)
    have eq : mvQ sl' de' wl' (po' m) m l x.2.2 (x.1 (m * 8 + l)) = mvQ sl de wl (po m) m l x.2.2 (x.1 (m * 8 + l)) := by
      unfold mvQ
      rw [ecl, ← hT.1 hd hh, ← (hT.2.1 l hl).1, ← hT.2.2.2 m hm]
      exact mvF_congr (fun k hk => (hT.2.2.1 _ (by omega)).symm) _ _ _
    rw [eq, ← (hT.2.1 l hl).2.1]
    refine ⟨fun i' l' hi hl' => ?_, rfl⟩
    by_cases hx : i' * 8 + l' = m * 8 + l
    · dsimp only
      rw [hx]
      refine ⟨by rw [pk_us, pk_us], ?_⟩
      split
      · exact (h.1 m l (by omega) hl).2
      · rw [pk_us, pk_us]
    · dsimp only
      refine ⟨by rw [pk_un hx, pk_un hx]; exact (h.1 i' l' hi hl').1, ?_⟩
      split
      · exact (h.1 i' l' hi hl').2
      · rw [pk_un hx, pk_un hx]; exact (h.1 i' l' hi hl').2
  · exact h
theorem pi_rel {n m : Nat} {st st' : Nat → Int32} {z : Nat} {wt : Int32} (h : ∀ l, l < n → st l = st' l) : ∀ j i, i + j ≤ n → piF m st z wt i j = piF m st' z wt i j := by
  intro j
  induction j with
  | zero => intro i _; rfl
  | succ j ih =>
    intro i hi
    unfold piF
    rw [h i (by omega), ih (i + 1) (by omega)]
theorem mn_rel {n m : Nat} (hn : n ≤ 8) (hm : m < 24) {sl de ta st wl po sl' de' ta' st' wl' po' : Nat → Int32} (hT : tRel n sl de ta st wl po sl' de' ta' st' wl' po') {x y : dS} (hx : lnOk n x) (h : dRel n m x y) : dRel n (m + 1) (mnF n sl de ta st wl po m x) (mnF n sl' de' ta' st' wl' po' m y) := by
  obtain ⟨h1, h2, h3, h4⟩ := h
  have hY : yRel n m (mnY n sl de ta wl po m x) (mnY n sl' de' ta' wl' po' m y) := by
    unfold mnY
    rw [← h3]
    have hb := bm_rel (n := n) (m := m) hn (x := (x.1, x.2.1)) (y := (y.1, y.2.1)) h1
    have k := lp_rel (f := lnF sl de ta wl (po m) m x.2.2.1) (g := lnF sl' de' ta' wl' (po' m) m y.2.2.1) (fun _ s u => yRel n m s u) (i := 0) (j := x.2.2.2.1) (s := ((bmF n m (x.1, x.2.1)).1, (bmF n m (x.1, x.2.1)).2, 17)) (u := ((bmF n m (y.1, y.2.1)).1, (bmF n m (y.1, y.2.1)).2, 17)) ⟨hb, rfl⟩ (fun i s u _ hi hR => ?_)
    · exact k
    · obtain ⟨l, hl, el⟩ := hx.2 i (by omega)
      exact ln_rel hn hm hT hl el ((h2 i (by omega)).symm.trans el) hR
  unfold mnF
  rw [← hY.2]
  split
  · unfold pnF
    dsimp only
    rw [← h3, ← h4, ← pi_rel (fun l hl => (hT.2.1 l hl).2.2) n 0 (by omega)]
    split
    · exact ⟨hY.1, h2, h3, h4⟩
    · rename_i l hl
      refine ⟨fun i l' hi hl' => ⟨?_, (hY.1 i l' hi hl').2⟩, fun i hi => ?_, rfl, rfl⟩
      · dsimp only
        by_cases hq : i * 8 + l' = m * 8 + l
        · rw [hq, pk_us, pk_us]
        · rw [pk_un hq, pk_un hq]; exact (hY.1 i l' hi hl').1
      · dsimp only at hi ⊢
        by_cases hq : i = x.2.2.2.1
        · rw [hq, pk_us, pk_us]
        · rw [pk_un hq, pk_un hq]; exact h2 i (by omega)
  · exact ⟨hY.1, h2, h3, h4⟩
theorem rn_rel {n : Nat} (hn : n ≤ 8) {sl de ta st wl po sl' de' ta' st' wl' po' : Nat → Int32} (hT : tRel n sl de ta st wl po sl' de' ta' st' wl' po') {x y : dS} (hx : lnOk n x) (h : dRel n 0 x y) : dRel n 24 (rnF n sl de ta st wl po x) (rnF n sl' de' ta' st' wl' po' y) := by
  have k := lp_rel (f := mnF n sl de ta st wl po) (g := mnF n sl' de' ta' st' wl' po') (fun m s u => lnOk n s ∧ dRel n m s u) (i := 0) (j := 24) (s := x) (u := y) ⟨hx, h⟩ (fun m s u _ hm hR => ⟨mnF_ok hR.1, mn_rel hn (by omega) hT hR.1 hR.2⟩)
  exact k.2
end
section
section X9
variable {E : iExtT} {a : Nat → Nat → Int32} {v : Nat → Int32} {t : Nat → Nat → Int64} {r : List va_E}
/-- what is told stays -/
def eqT (a : Nat → Nat → Int32) (v : Nat → Int32) (a' : Nat → Nat → Int32) (v' : Nat → Int32) : Prop := (∀ k ∈ [2, 4, 5, 6, 7, 8, 10, 11, 12, 14, 15, 16, 40, 42, 44, 46, 48, 50, 52], a' k = a k) ∧ ∀ k ∈ [0, 4, 5, 6, 11, 12, 13, 14, 15, 16, 17, 18, 19, 20, 21], v' k = v k
theorem eqT.rf : eqT a v a v := ⟨fun _ _ => rfl, fun _ _ => rfl⟩
theorem eqT.trans {a' a'' : Nat → Nat → Int32} {v' v'' : Nat → Int32} (h1 : eqT a v a' v') (h2 : eqT a' v' a'' v'') : eqT a v a'' v'' := ⟨fun k hk => (h2.1 k hk).trans (h1.1 k hk), fun k hk => (h2.2 k hk).trans (h1.2 k hk)⟩
def WfX (a : Nat → Nat → Int32) (v : Nat → Int32) (n k q : Nat) (mn sm : Nat → Nat) : Prop := (n ≤ 8 ∧ v 4 = nI n) ∧ (k ≤ 8 ∧ v 5 = nI k ∧ ∀ e, e < k → a 11 e = nI (mn e) ∧ mn e < 24) ∧ (q ≤ 8 ∧ v 6 = nI q ∧ ∀ i, i < q → a 14 i = nI (sm i) ∧ sm i < 24)
theorem WfX.moved {a' : Nat → Nat → Int32} {v' : Nat → Int32} {n k q : Nat} {mn sm : Nat → Nat} (h : WfX a v n k q mn sm) (he : eqT a v a' v') : WfX a' v' n k q mn sm := by
  obtain ⟨⟨h1, h2⟩, ⟨h3, h4, h5⟩, h6, h7, h8⟩ := h
  refine ⟨⟨h1, by rw [he.2 4 (by decide)]; exact h2⟩, ⟨h3, by rw [he.2 5 (by decide)]; exact h4, by rw [he.1 11 (by decide)]; exact h5⟩, h6, by rw [he.2 6 (by decide)]; exact h7, by rw [he.1 14 (by decide)]; exact h8⟩
abbrev z0 : Nat → Int32 := fun _ => 0
def cmk (kda nu : Nat → Int32) (mn : Nat → Nat) (k : Nat) (kd kp : Int32) : Nat → Int32 := mkA kda mn nu k kd kp z0
def evB (k : Nat) : Int32 := sh1 (nI k) - 1
def cwl (kda nu : Nat → Int32) (mn : Nat → Nat) (k : Nat) (fe : Nat → Int32) (kp : Int32) : Nat → Int32 := wlA fe (cmk kda nu mn k 1 kp) (cmk kda nu mn k 2 kp) z0
def crn (kda nu : Nat → Int32) (mn : Nat → Nat) (k n : Nat) (sl de ta st wl : Nat → Int32) (kp : Int32) : dS := rnF n sl de ta st wl (cmk kda nu mn k 0 kp) (z0, z0, z0, 0, sh1 (nI n) - 1)
/-- who is out if only the events kp are -/
def ocF (kda nu : Nat → Int32) (mn : Nat → Nat) (k n : Nat) (sl fe de ta st : Nat → Int32) (kp : Int32) : Int32 := obF (crn kda nu mn k n sl de ta st (cwl kda nu mn k fe kp) kp).1 n
/-- the water and the drive as told -/
abbrev cW (a : Nat → Nat → Int32) (mn : Nat → Nat) (k : Nat) : Nat → Int32 := cwl (a 10) (a 12) mn k (a 5) (evB k)
abbrev cDr (a : Nat → Nat → Int32) (mn : Nat → Nat) (k n : Nat) : dS := crn (a 10) (a 12) mn k n (a 4) (a 7) (a 8) (a 6) (cwl (a 10) (a 12) mn k (a 5) (evB k)) (evB k)
abbrev oC (a : Nat → Nat → Int32) (mn : Nat → Nat) (k n : Nat) (kp : Int32) : Int32 := ocF (a 10) (a 12) mn k n (a 4) (a 5) (a 7) (a 8) (a 6) kp
/-- what is settled, is so -/
def ValX (a : Nat → Nat → Int32) (mn : Nat → Nat) (k n : Nat) : Prop := (∀ j, j < 384 → a 19 j = cW a mn k j) ∧ (∀ i l, i < 24 → l < n → a 23 (i * 8 + l) = (cDr a mn k n).1 (i * 8 + l) ∧ a 24 (i * 8 + l) = (cDr a mn k n).2.1 (i * 8 + l)) ∧ ∀ j, j < 256 → a 37 j = -1 ∨ a 37 j = oC a mn k n (nI j)
theorem cW_eq {a' : Nat → Nat → Int32} {v' : Nat → Int32} (he : eqT a v a' v') (mn : Nat → Nat) (k : Nat) : cW a' mn k = cW a mn k := by
  unfold cW
  rw [he.1 10 (by decide), he.1 12 (by decide), he.1 5 (by decide)]
theorem cDr_eq {a' : Nat → Nat → Int32} {v' : Nat → Int32} (he : eqT a v a' v') (mn : Nat → Nat) (k n : Nat) : cDr a' mn k n = cDr a mn k n := by
  unfold cDr
  rw [he.1 10 (by decide), he.1 12 (by decide), he.1 5 (by decide), he.1 4 (by decide), he.1 7 (by decide), he.1 8 (by decide), he.1 6 (by decide)]
theorem oC_eq {a' : Nat → Nat → Int32} {v' : Nat → Int32} (he : eqT a v a' v') (mn : Nat → Nat) (k n : Nat) : oC a' mn k n = oC a mn k n := by
  unfold oC
  rw [he.1 10 (by decide), he.1 12 (by decide), he.1 5 (by decide), he.1 4 (by decide), he.1 7 (by decide), he.1 8 (by decide), he.1 6 (by decide)]
theorem ValX_mk {a' : Nat → Nat → Int32} {v' : Nat → Int32} {mn : Nat → Nat} {k n : Nat} (he : eqT a v a' v') (h1 : ∀ j, j < 384 → a' 19 j = cW a mn k j) (h2 : ∀ i l, i < 24 → l < n → a' 23 (i * 8 + l) = (cDr a mn k n).1 (i * 8 + l) ∧ a' 24 (i * 8 + l) = (cDr a mn k n).2.1 (i * 8 + l)) (h3 : ∀ j, j < 256 → a' 37 j = -1 ∨ a' 37 j = oC a mn k n (nI j)) : ValX a' mn k n := by
  unfold ValX
  rw [cW_eq he, cDr_eq he, oC_eq he]
  exact ⟨h1, h2, h3⟩
def SetX (a : Nat → Nat → Int32) (v : Nat → Int32) (mn : Nat → Nat) (k n : Nat) : Prop := v 1 = 0 ∨ (v 1 = 1 ∧ ValX a mn k n)
theorem neg_row (f : Nat → Int32) {m : Nat} (hm : m < 256) : lp (fun m g => upd g m (-1)) 0 256 f m = -1 := by
  have h := lp_inv (f := fun m g => upd g m (-1)) (fun i g => ∀ m, m < i → g m = -1) (i := 0) (j := 256) (s := f) (fun m h => absurd h (Nat.not_lt_zero _)) (fun k g _ _ hI m hm => by
    by_cases hx : m = k
    · subst hx; exact pk_us
    · rw [pk_un hx]; exact hI m (by omega))
  exact h m (by omega)
theorem dRel0 {n : Nat} {x y : dS} (h3 : x.2.2.2.1 = 0) (h3' : y.2.2.2.1 = 0) (h4 : x.2.2.2.2 = y.2.2.2.2) : dRel n 0 x y := ⟨fun i l hi => absurd hi (Nat.not_lt_zero _), fun i hi => absurd hi (by omega), h3.trans h3'.symm, h4⟩
theorem lnOk0 {n : Nat} {x : dS} (h3 : x.2.2.2.1 = 0) : lnOk n x := ⟨by omega, fun i hi => absurd hi (by omega)⟩
/-- a drive's rows don't hang on what stood there; water that agrees -/
theorem crn_of {mn : Nat → Nat} {k n : Nat} (hn : n ≤ 8) (hmn : ∀ e, e < k → mn e < 24) {sl de ta st wl wl' : Nat → Int32} {kda nu : Nat → Int32} {kp : Int32} (hwl : ∀ j, j < 384 → wl j = wl' j) (P : Nat → Int32) (H S LN : Nat → Int32) (b : Int32) : dRel n 24 (rnF n sl de ta st wl (mkA kda mn nu k 0 kp P) (H, S, LN, 0, b)) (rnF n sl de ta st wl' (mkA kda mn nu k 0 kp z0) (z0, z0, z0, 0, b)) :=
  rn_rel hn ⟨fun _ _ => rfl, fun _ _ => ⟨rfl, rfl, rfl⟩, hwl, fun m hm => mk_ind _ _ hm hmn⟩ (lnOk0 rfl) (dRel0 rfl rfl rfl)
theorem cwl_of {mn : Nat → Nat} {k : Nat} (hmn : ∀ e, e < k → mn e < 24) {fe kda nu : Nat → Int32} {kp : Int32} (P Q F : Nat → Int32) {j : Nat} (hj : j < 384) : wlA fe (mkA kda mn nu k 1 kp P) (mkA kda mn nu k 2 kp Q) F j = wlA fe (mkA kda mn nu k 1 kp z0) (mkA kda mn nu k 2 kp z0) z0 j :=
  wl_ind _ _ (fun _ _ => rfl) (fun m hm => mk_ind _ _ hm hmn) (fun m hm => mk_ind _ _ hm hmn) hj
theorem r_settle {n k q : Nat} {mn sm : Nat → Nat} (hW : WfX a v n k q mn sm) (hS : SetX a v mn k n) : ∃ (a' : Nat → Nat → Int32) (v' : Nat → Int32), Rn E 2 mX7_settle (0, [(0, .ref 0)], [], wX a v t r) (none, wX a' v' t r) ∧ eqT a v a' v' ∧ v' 1 = 1 ∧ ValX a' mn k n := by
  rcases hS with h0 | ⟨h1, hV⟩
  · obtain ⟨⟨hn, hv4⟩, ⟨hk, hv5, hmn⟩, -⟩ := hW
    have hmn' : ∀ e, e < k → mn e < 24 := fun e he => (hmn e he).2
    have eB : sh1 (v 5) - 1 = evB k := by rw [hv5]; rfl
    obtain ⟨SH, hSH⟩ : ∃ f, f = mkA (a 10) mn (a 12) k 1 (evB k) (a 20) := ⟨_, rfl⟩
    obtain ⟨BU, hBU⟩ : ∃ f, f = mkA (a 10) mn (a 12) k 2 (evB k) (a 21) := ⟨_, rfl⟩
    obtain ⟨WL, hWL⟩ : ∃ f, f = wlA (a 5) SH BU (a 19) := ⟨_, rfl⟩
    obtain ⟨PO, hPO⟩ : ∃ f, f = mkA (a 10) mn (a 12) k 0 (evB k) (a 25) := ⟨_, rfl⟩
    obtain ⟨x, hx⟩ : ∃ x : dS, x = rnF n (a 4) (a 7) (a 8) (a 6) WL PO (a 23, a 24, a 26, 0, sh1 (v 4) - 1) := ⟨_, rfl⟩
    obtain ⟨OC, hOC⟩ : ∃ f, f = lp (fun m g => upd g m (-1)) 0 256 (a 37) := ⟨_, rfl⟩
    have eWL : ∀ j, j < 384 → WL j = cW a mn k j := fun j hj => by
      rw [hWL, hSH, hBU]; exact cwl_of hmn' _ _ _ hj
    have hR : dRel n 24 x (cDr a mn k n) := by
      rw [hx, hPO]
      have e4 : sh1 (v 4) - 1 = sh1 (nI n) - 1 := by rw [hv4]
      rw [e4]
      exact crn_of hn hmn' eWL _ _ _ _ _
    obtain ⟨a', ha'⟩ : ∃ a' : Nat → Nat → Int32, a' = va_up (va_up (va_up (va_up (va_up (va_up (va_up (va_up a 20 SH) 21 BU) 19 WL) 25 PO) 23 x.1) 24 x.2.1) 26 x.2.2.1) 37 OC := ⟨_, rfl⟩
    have he : eqT a v a' (upd (upd (upd v 7 (nI x.2.2.2.1)) 8 x.2.2.2.2) 1 1) := by
      subst ha'
      refine ⟨fun k hk => ?_, fun k hk => ?_⟩
      · simp only [List.mem_cons, List.not_mem_nil, or_false] at hk
        rcases hk with rfl | rfl | rfl | rfl | rfl | rfl | rfl | rfl | rfl | rfl | rfl | rfl | rfl | rfl | rfl | rfl | rfl | rfl | rfl <;> rfl
      · simp only [List.mem_cons, List.not_mem_nil, or_false] at hk
        rcases hk with rfl | rfl | rfl | rfl | rfl | rfl | rfl | rfl | rfl | rfl | rfl | rfl | rfl | rfl | rfl <;> rfl
    have e19 : a' 19 = WL := by subst ha'; rfl
    have e23 : a' 23 = x.1 := by subst ha'; rfl
    have e24 : a' 24 = x.2.1 := by subst ha'; rfl
    have e37 : a' 37 = OC := by subst ha'; rfl
    refine ⟨a', upd (upd (upd v 7 (nI x.2.2.2.1)) 8 x.2.2.2.2) 1 1, ?_, he, rfl, ValX_mk he (by rw [e19]; exact eWL) (by rw [e23, e24]; exact hR.1) (by rw [e37, hOC]; exact fun j hj => Or.inl (neg_row _ hj))⟩
    · subst ha'
      repeat refine Rn.step rfl ?_
      refine Rn.br1 rfl h0 ?_
      repeat refine Rn.step rfl ?_
      refine Rn.calli rfl rfl rfl (by decide) r_bits (fun x1 e1 => ?_)
      rw [eB] at e1
      subst e1
      refine Rn.callv rfl rfl rfl (by decide) (r_pour1 (evB k) hk hv5 hmn hSH hBU) ?_
      rw [← hWL]
      repeat refine Rn.step rfl ?_
      refine Rn.calli rfl rfl rfl (by decide) r_bits (fun x2 e2 => ?_)
      rw [eB] at e2
      subst e2
      refine Rn.callv rfl rfl rfl (by decide) (r_run1 (a := va_up (va_up (va_up a 20 SH) 21 BU) 19 WL) (evB k) hn hv4 hk hv5 hmn (PO := PO) hPO (XF := x) hx) ?_
      refine Rn.hp (h2 := wX (va_up (va_up (va_up (va_up (va_up (va_up (va_up a 20 SH) 21 BU) 19 WL) 25 PO) 23 x.1) 24 x.2.1) 26 x.2.2.1) (upd (upd v 7 (nI x.2.2.2.1)) 8 x.2.2.2.2) t r) rfl ?_
      iterate 2 refine Rn.step rfl ?_
      refine Rn.lp (σ := Nat → Int32) (cfg := fun i g => (61, [(1, .int (nI i)), (0, .ref 0)], [], wX (va_up (va_up (va_up (va_up (va_up (va_up (va_up (va_up a 20 SH) 21 BU) 19 WL) 25 PO) 23 x.1) 24 x.2.1) 26 x.2.2.1) 37 g) (upd (upd v 7 (nI x.2.2.2.1)) 8 x.2.2.2.2) t r)) (f := fun m g => upd g m (-1)) (n := 256) (fun _ _ => True) (fun i g hi _ => ⟨trivial, fun k => ?_⟩) 256 0 (a 37) rfl trivial (fun g0 hg0 _ => ?_)
      · rw [nI_succ] at k
        repeat refine Rn.step rfl ?_
        refine Rn.br2 rfl (nle hi (by decide)) ?_
        repeat refine Rn.step rfl ?_
        refine Rn.ast i rfl rfl hi (by decide) (h3 := wX (va_up (va_up (va_up (va_up (va_up (va_up (va_up (va_up a 20 SH) 21 BU) 19 WL) 25 PO) 23 x.1) 24 x.2.1) 26 x.2.2.1) 37 (upd g i (-1))) (upd (upd v 7 (nI x.2.2.2.1)) 8 x.2.2.2.2) t r) rfl ?_
        iterate 2 refine Rn.step rfl ?_
        exact k
      · rw [hg0, ← hOC]
        repeat refine Rn.step rfl ?_
        exact Rn.ret rfl
  · refine ⟨a, v, ?_, eqT.rf, h1, hV⟩
    repeat refine Rn.step rfl ?_
    refine Rn.br2 rfl (by rw [h1]; decide) ?_
    exact Rn.ret rfl
end X9
end
section
section XA
variable {E : iExtT} {a : Nat → Nat → Int32} {v : Nat → Int32} {t : Nat → Nat → Int64} {r : List va_E}
theorem liF_congr {H H' ta : Nat → Int32} {m : Nat} {sp : Int32} {n : Nat} (h : ∀ l, l < n → H (m * 8 + l) = H' (m * 8 + l)) : ∀ j i, i + j ≤ n → liF H ta m sp i j = liF H' ta m sp i j := by
  intro j
  induction j with
  | zero => intro i _; rfl
  | succ j ih =>
    intro i hi
    unfold liF liP
    rw [h i (by omega), ih (i + 1) (by omega)]
theorem tog_congr {f g : Nat → Int32} {m : Nat} (hm : m < 24) (h : ∀ j, j < 384 → f j = g j) : tog f m = tog g m := lp_congr (fun s x _ hs => by rw [h _ (by omega)])
theorem afl_congr {f g : Nat → Int32} {m n : Nat} (h : ∀ l, l < n → f (m * 8 + l) = g (m * 8 + l)) : aflF f m n = aflF g m n := lp_congr (fun s x _ hs => by rw [h s (by omega)])
theorem moF_congr {H H' : Nat → Int32} {l : Nat} (h : ∀ i, i < 24 → H (i * 8 + l) = H' (i * 8 + l)) : ∀ j i, i + j ≤ 24 → moF H l i j = moF H' l i j := by
  intro j
  induction j with
  | zero => intro i _; rfl
  | succ j ih =>
    intro i hi
    unfold moF
    rw [h i (by omega), ih (i + 1) (by omega)]
theorem miF_congr {f g : Nat → Int32} {l : Nat} {s : Int32} (h : ∀ i, i < 24 → f (i * 8 + l) = g (i * 8 + l)) : miF f l s = miF g l s := lp_congr (fun i x _ hs => by rw [h i (by omega)])
theorem maF_congr {f g : Nat → Int32} {n : Nat} {s : Int32} (h : ∀ i l, i < 24 → l < n → f (i * 8 + l) = g (i * 8 + l)) : maF f n s = maF g n s := lp_congr (fun l x _ hs => by rw [miF_congr (fun i hi => h i l hi (by omega))])
theorem obF_congr {f g : Nat → Int32} {n : Nat} (h : ∀ l, l < n → f (23 * 8 + l) = g (23 * 8 + l)) : obF f n = obF g n := lp_congr (fun l x _ hs => by rw [show 184 + l = 23 * 8 + l from rfl, h l (by omega)])
theorem drF_congr {f g : Nat → Int32} (h : ∀ j, j < 384 → f j = g j) : drF f = drF g := lp_congr (fun m x _ hm => lp_congr (fun s x _ hs => by rw [h _ (by omega)]))
/-- a method that tells: its answer, what is told stays, what is settled is so -/
def AX (E : iExtT) (hh : Nat) (M : iMeth) (L : List (Nat × Value)) (a : Nat → Nat → Int32) (v : Nat → Int32) (t : Nat → Nat → Int64) (r : List va_E) (mn : Nat → Nat) (k n : Nat) (ans : Option Value) : Prop := ∃ (a' : Nat → Nat → Int32) (v' : Nat → Int32), Rn E hh M (0, L, [], wX a v t r) (ans, wX a' v' t r) ∧ eqT a v a' v' ∧ SetX a' v' mn k n
theorem r_flume_bad (x y z : Int32) (hb : ¬ (inB x 24 ∧ inB y 16 ∧ inB z 2)) : Rn E 3 mX7_flume (0, [(0, .ref 0), (1, .int x), (2, .int y), (3, .int z)], [], wX a v t r) ((some (.int (-2))), wX a v t r) := by
  repeat refine Rn.step rfl ?_
  refine Rn.calli rfl rfl rfl (by decide) (r_within x 24 _) (fun x0 e0 => ?_)
  refine Rn.br rfl (fun h0 => ?_) (fun h0 => ?_)
  · repeat refine Rn.step rfl ?_
    exact Rn.ret rfl
  repeat refine Rn.step rfl ?_
  refine Rn.calli rfl rfl rfl (by decide) (r_within y 16 _) (fun x1 e1 => ?_)
  refine Rn.br rfl (fun h1 => ?_) (fun h1 => ?_)
  · repeat refine Rn.step rfl ?_
    exact Rn.ret rfl
  repeat refine Rn.step rfl ?_
  refine Rn.calli rfl rfl rfl (by decide) (r_within z 2 _) (fun x2 e2 => ?_)
  refine Rn.br2 rfl (fun h2 => hb (⟨ib_ne0.mp (e0 ▸ h0), ib_ne0.mp (e1 ▸ h1), ib_ne0.mp (e2 ▸ h2)⟩)) ?_
  repeat refine Rn.step rfl ?_
  exact Rn.ret rfl
theorem r_flume0 {n k q : Nat} {mn sm : Nat → Nat} (hW : WfX a v n k q mn sm) (hS : SetX a v mn k n) {m s : Nat} (hm : m < 24) (hs : s < 16) : AX E 3 mX7_flume [(0, .ref 0), (1, .int (nI m)), (2, .int (nI s)), (3, .int 0)] a v t r mn k n (some (.int (cW a mn k (m * 16 + s)))) := by
  obtain ⟨⟨hn, hv4⟩, -⟩ := id hW
  obtain ⟨a', v', hr, he, h1, hV⟩ := r_settle (E := E) (t := t) (r := r) hW hS
  have hW' := hW.moved he
  obtain ⟨⟨-, hv4'⟩, -⟩ := id hW'
  refine ⟨a', v', ?_, he, Or.inr ⟨h1, hV⟩⟩
  obtain ⟨hV1, hV2, hV3⟩ := hV
  rw [cW_eq he] at hV1
  rw [cDr_eq he] at hV2
  repeat refine Rn.step rfl ?_
  refine Rn.calli rfl rfl rfl (by decide) (r_within (nI m) 24 _) (fun x0 e0 => ?_)
  refine Rn.br2 rfl (by rw [e0, ib_eq0]; exact fun q => q (inB_nI (n := 24) hm (by decide))) ?_
  repeat refine Rn.step rfl ?_
  refine Rn.calli rfl rfl rfl (by decide) (r_within (nI s) 16 _) (fun x1 e1 => ?_)
  refine Rn.br2 rfl (by rw [e1, ib_eq0]; exact fun q => q (inB_nI (n := 16) hs (by decide))) ?_
  repeat refine Rn.step rfl ?_
  refine Rn.calli rfl rfl rfl (by decide) (r_within 0 2 _) (fun x2 e2 => ?_)
  refine Rn.br1 rfl (by rw [e2, ib_ne0]; exact by decide) ?_
  repeat refine Rn.step rfl ?_
  refine Rn.callv rfl rfl rfl (by decide) hr ?_
  repeat refine Rn.step rfl ?_
  refine Rn.ald (m * 16 + s) rfl (ix_ma m 16 s) (by omega) (by decide) ?_
  refine Rn.top (hV1 _ (by omega)) ?_
  repeat refine Rn.step rfl ?_
  exact Rn.ret rfl
theorem r_flume1 {n k q : Nat} {mn sm : Nat → Nat} (hW : WfX a v n k q mn sm) (hS : SetX a v mn k n) {m s : Nat} (hm : m < 24) (hs : s < 16) : AX E 3 mX7_flume [(0, .ref 0), (1, .int (nI m)), (2, .int (nI s)), (3, .int 1)] a v t r mn k n (some (.int (liF (cDr a mn k n).1 (a 8) m (nI s) 0 n))) := by
  obtain ⟨⟨hn, hv4⟩, -⟩ := id hW
  obtain ⟨a', v', hr, he, h1, hV⟩ := r_settle (E := E) (t := t) (r := r) hW hS
  have hW' := hW.moved he
  obtain ⟨⟨-, hv4'⟩, -⟩ := id hW'
  refine ⟨a', v', ?_, he, Or.inr ⟨h1, hV⟩⟩
  obtain ⟨hV1, hV2, hV3⟩ := hV
  rw [cW_eq he] at hV1
  rw [cDr_eq he] at hV2
  repeat refine Rn.step rfl ?_
  refine Rn.calli rfl rfl rfl (by decide) (r_within (nI m) 24 _) (fun x0 e0 => ?_)
  refine Rn.br2 rfl (by rw [e0, ib_eq0]; exact fun q => q (inB_nI (n := 24) hm (by decide))) ?_
  repeat refine Rn.step rfl ?_
  refine Rn.calli rfl rfl rfl (by decide) (r_within (nI s) 16 _) (fun x1 e1 => ?_)
  refine Rn.br2 rfl (by rw [e1, ib_eq0]; exact fun q => q (inB_nI (n := 16) hs (by decide))) ?_
  repeat refine Rn.step rfl ?_
  refine Rn.calli rfl rfl rfl (by decide) (r_within 1 2 _) (fun x2 e2 => ?_)
  refine Rn.br1 rfl (by rw [e2, ib_ne0]; exact by decide) ?_
  repeat refine Rn.step rfl ?_
  refine Rn.callv rfl rfl rfl (by decide) hr ?_
  repeat refine Rn.step rfl ?_
  refine Rn.calli rfl rfl rfl (by decide) (r_lier1 hn hv4' hm (nI s)) (fun z1 f1 => ?_)
  rw [liF_congr (fun l hl => (hV2 m l hm hl).1) n 0 (by omega), he.1 8 (by decide)] at f1
  rw [← f1]
  exact Rn.ret rfl
theorem r_at_bad (x y z : Int32) (hb : ¬ (inB x 24 ∧ inB y (v 4) ∧ inB z 2)) : Rn E 3 mX7_at (0, [(0, .ref 0), (1, .int x), (2, .int y), (3, .int z)], [], wX a v t r) ((some (.int (-2))), wX a v t r) := by
  repeat refine Rn.step rfl ?_
  refine Rn.calli rfl rfl rfl (by decide) (r_within x 24 _) (fun x0 e0 => ?_)
  refine Rn.br rfl (fun h0 => ?_) (fun h0 => ?_)
  · repeat refine Rn.step rfl ?_
    exact Rn.ret rfl
  repeat refine Rn.step rfl ?_
  refine Rn.calli rfl rfl rfl (by decide) (r_isLog y) (fun x1 e1 => ?_)
  refine Rn.br rfl (fun h1 => ?_) (fun h1 => ?_)
  · repeat refine Rn.step rfl ?_
    exact Rn.ret rfl
  repeat refine Rn.step rfl ?_
  refine Rn.calli rfl rfl rfl (by decide) (r_within z 2 _) (fun x2 e2 => ?_)
  refine Rn.br2 rfl (fun h2 => hb (⟨ib_ne0.mp (e0 ▸ h0), ib_ne0.mp (e1 ▸ h1), ib_ne0.mp (e2 ▸ h2)⟩)) ?_
  repeat refine Rn.step rfl ?_
  exact Rn.ret rfl
theorem r_at0 {n k q : Nat} {mn sm : Nat → Nat} (hW : WfX a v n k q mn sm) (hS : SetX a v mn k n) {m l : Nat} (hm : m < 24) (hl : l < n) : AX E 3 mX7_at [(0, .ref 0), (1, .int (nI m)), (2, .int (nI l)), (3, .int 0)] a v t r mn k n (some (.int ((cDr a mn k n).1 (m * 8 + l)))) := by
  obtain ⟨⟨hn, hv4⟩, -⟩ := id hW
  obtain ⟨a', v', hr, he, h1, hV⟩ := r_settle (E := E) (t := t) (r := r) hW hS
  have hW' := hW.moved he
  obtain ⟨⟨-, hv4'⟩, -⟩ := id hW'
  refine ⟨a', v', ?_, he, Or.inr ⟨h1, hV⟩⟩
  obtain ⟨hV1, hV2, hV3⟩ := hV
  rw [cW_eq he] at hV1
  rw [cDr_eq he] at hV2
  repeat refine Rn.step rfl ?_
  refine Rn.calli rfl rfl rfl (by decide) (r_within (nI m) 24 _) (fun x0 e0 => ?_)
  refine Rn.br2 rfl (by rw [e0, ib_eq0]; exact fun q => q (inB_nI (n := 24) hm (by decide))) ?_
  repeat refine Rn.step rfl ?_
  refine Rn.calli rfl rfl rfl (by decide) (r_isLog (nI l)) (fun x1 e1 => ?_)
  refine Rn.br2 rfl (by rw [e1, ib_eq0]; exact fun q => q (by rw [hv4]; exact inB_nI hl (by omega))) ?_
  repeat refine Rn.step rfl ?_
  refine Rn.calli rfl rfl rfl (by decide) (r_within 0 2 _) (fun x2 e2 => ?_)
  refine Rn.br1 rfl (by rw [e2, ib_ne0]; exact by decide) ?_
  repeat refine Rn.step rfl ?_
  refine Rn.callv rfl rfl rfl (by decide) hr ?_
  iterate 5 refine Rn.step rfl ?_
  refine Rn.top (ix_ma m 8 l) ?_
  repeat refine Rn.step rfl ?_
  refine Rn.ald (m * 8 + l) rfl rfl (by omega) (by decide) ?_
  refine Rn.top (hV2 m l hm hl).1 ?_
  repeat refine Rn.step rfl ?_
  exact Rn.ret rfl
theorem r_at1 {n k q : Nat} {mn sm : Nat → Nat} (hW : WfX a v n k q mn sm) (hS : SetX a v mn k n) {m l : Nat} (hm : m < 24) (hl : l < n) : AX E 3 mX7_at [(0, .ref 0), (1, .int (nI m)), (2, .int (nI l)), (3, .int 1)] a v t r mn k n (some (.int ((cDr a mn k n).2.1 (m * 8 + l)))) := by
  obtain ⟨⟨hn, hv4⟩, -⟩ := id hW
  obtain ⟨a', v', hr, he, h1, hV⟩ := r_settle (E := E) (t := t) (r := r) hW hS
  have hW' := hW.moved he
  obtain ⟨⟨-, hv4'⟩, -⟩ := id hW'
  refine ⟨a', v', ?_, he, Or.inr ⟨h1, hV⟩⟩
  obtain ⟨hV1, hV2, hV3⟩ := hV
  rw [cW_eq he] at hV1
  rw [cDr_eq he] at hV2
  repeat refine Rn.step rfl ?_
  refine Rn.calli rfl rfl rfl (by decide) (r_within (nI m) 24 _) (fun x0 e0 => ?_)
  refine Rn.br2 rfl (by rw [e0, ib_eq0]; exact fun q => q (inB_nI (n := 24) hm (by decide))) ?_
  repeat refine Rn.step rfl ?_
  refine Rn.calli rfl rfl rfl (by decide) (r_isLog (nI l)) (fun x1 e1 => ?_)
  refine Rn.br2 rfl (by rw [e1, ib_eq0]; exact fun q => q (by rw [hv4]; exact inB_nI hl (by omega))) ?_
  repeat refine Rn.step rfl ?_
  refine Rn.calli rfl rfl rfl (by decide) (r_within 1 2 _) (fun x2 e2 => ?_)
  refine Rn.br1 rfl (by rw [e2, ib_ne0]; exact by decide) ?_
  repeat refine Rn.step rfl ?_
  refine Rn.callv rfl rfl rfl (by decide) hr ?_
  iterate 5 refine Rn.step rfl ?_
  refine Rn.top (ix_ma m 8 l) ?_
  repeat refine Rn.step rfl ?_
  refine Rn.ald (m * 8 + l) rfl rfl (by omega) (by decide) ?_
  refine Rn.top (hV2 m l hm hl).2 ?_
  repeat refine Rn.step rfl ?_
  exact Rn.ret rfl
theorem r_all_bad (x y : Int32) (hb : ¬ (inB x 24 ∧ inB y 2)) : Rn E 3 mX7_all (0, [(0, .ref 0), (1, .int x), (2, .int y)], [], wX a v t r) ((some (.int (-2))), wX a v t r) := by
  repeat refine Rn.step rfl ?_
  refine Rn.calli rfl rfl rfl (by decide) (r_within x 24 _) (fun x0 e0 => ?_)
  refine Rn.br rfl (fun h0 => ?_) (fun h0 => ?_)
  · repeat refine Rn.step rfl ?_
    exact Rn.ret rfl
  repeat refine Rn.step rfl ?_
  refine Rn.calli rfl rfl rfl (by decide) (r_within y 2 _) (fun x1 e1 => ?_)
  refine Rn.br2 rfl (fun h1 => hb (⟨ib_ne0.mp (e0 ▸ h0), ib_ne0.mp (e1 ▸ h1)⟩)) ?_
  repeat refine Rn.step rfl ?_
  exact Rn.ret rfl
theorem r_all0 {n k q : Nat} {mn sm : Nat → Nat} (hW : WfX a v n k q mn sm) (hS : SetX a v mn k n) {m : Nat} (hm : m < 24) : AX E 3 mX7_all [(0, .ref 0), (1, .int (nI m)), (2, .int 0)] a v t r mn k n (some (.int (tog (cW a mn k) m))) := by
  obtain ⟨⟨hn, hv4⟩, -⟩ := id hW
  obtain ⟨a', v', hr, he, h1, hV⟩ := r_settle (E := E) (t := t) (r := r) hW hS
  have hW' := hW.moved he
  obtain ⟨⟨-, hv4'⟩, -⟩ := id hW'
  refine ⟨a', v', ?_, he, Or.inr ⟨h1, hV⟩⟩
  obtain ⟨hV1, hV2, hV3⟩ := hV
  rw [cW_eq he] at hV1
  rw [cDr_eq he] at hV2
  repeat refine Rn.step rfl ?_
  refine Rn.calli rfl rfl rfl (by decide) (r_within (nI m) 24 _) (fun x0 e0 => ?_)
  refine Rn.br2 rfl (by rw [e0, ib_eq0]; exact fun q => q (inB_nI (n := 24) hm (by decide))) ?_
  repeat refine Rn.step rfl ?_
  refine Rn.calli rfl rfl rfl (by decide) (r_within 0 2 _) (fun x1 e1 => ?_)
  refine Rn.br1 rfl (by rw [e1, ib_ne0]; exact by decide) ?_
  repeat refine Rn.step rfl ?_
  refine Rn.callv rfl rfl rfl (by decide) hr ?_
  repeat refine Rn.step rfl ?_
  refine Rn.calli rfl rfl rfl (by decide) (r_together m hm) (fun z1 f1 => ?_)
  rw [tog_congr hm hV1] at f1
  refine Rn.step rfl ?_
  rw [← f1]
  exact Rn.ret rfl
theorem r_all1 {n k q : Nat} {mn sm : Nat → Nat} (hW : WfX a v n k q mn sm) (hS : SetX a v mn k n) {m : Nat} (hm : m < 24) : AX E 3 mX7_all [(0, .ref 0), (1, .int (nI m)), (2, .int 1)] a v t r mn k n (some (.int (aflF (cDr a mn k n).1 m n))) := by
  obtain ⟨⟨hn, hv4⟩, -⟩ := id hW
  obtain ⟨a', v', hr, he, h1, hV⟩ := r_settle (E := E) (t := t) (r := r) hW hS
  have hW' := hW.moved he
  obtain ⟨⟨-, hv4'⟩, -⟩ := id hW'
  refine ⟨a', v', ?_, he, Or.inr ⟨h1, hV⟩⟩
  obtain ⟨hV1, hV2, hV3⟩ := hV
  rw [cW_eq he] at hV1
  rw [cDr_eq he] at hV2
  repeat refine Rn.step rfl ?_
  refine Rn.calli rfl rfl rfl (by decide) (r_within (nI m) 24 _) (fun x0 e0 => ?_)
  refine Rn.br2 rfl (by rw [e0, ib_eq0]; exact fun q => q (inB_nI (n := 24) hm (by decide))) ?_
  repeat refine Rn.step rfl ?_
  refine Rn.calli rfl rfl rfl (by decide) (r_within 1 2 _) (fun x1 e1 => ?_)
  refine Rn.br1 rfl (by rw [e1, ib_ne0]; exact by decide) ?_
  repeat refine Rn.step rfl ?_
  refine Rn.callv rfl rfl rfl (by decide) hr ?_
  repeat refine Rn.step rfl ?_
  refine Rn.calli rfl rfl rfl (by decide) (r_afloat hn hv4' hm) (fun z1 f1 => ?_)
  rw [afl_congr (fun l hl => (hV2 m l hm hl).1)] at f1
  rw [← f1]
  exact Rn.ret rfl
theorem r_out_bad (x y : Int32) (hb : ¬ (inB x (v 4) ∧ inB y 3)) : Rn E 3 mX7_out (0, [(0, .ref 0), (1, .int x), (2, .int y)], [], wX a v t r) ((some (.int (-2))), wX a v t r) := by
  repeat refine Rn.step rfl ?_
  refine Rn.calli rfl rfl rfl (by decide) (r_isLog x) (fun x0 e0 => ?_)
  refine Rn.br rfl (fun h0 => ?_) (fun h0 => ?_)
  · repeat refine Rn.step rfl ?_
    exact Rn.ret rfl
  repeat refine Rn.step rfl ?_
  refine Rn.calli rfl rfl rfl (by decide) (r_within y 3 _) (fun x1 e1 => ?_)
  refine Rn.br2 rfl (fun h1 => hb (⟨ib_ne0.mp (e0 ▸ h0), ib_ne0.mp (e1 ▸ h1)⟩)) ?_
  repeat refine Rn.step rfl ?_
  exact Rn.ret rfl
theorem r_out0 {n k q : Nat} {mn sm : Nat → Nat} (hW : WfX a v n k q mn sm) (hS : SetX a v mn k n) {l : Nat} (hl : l < n) : AX E 3 mX7_out [(0, .ref 0), (1, .int (nI l)), (2, .int 0)] a v t r mn k n (some (.int (moF (cDr a mn k n).1 l 0 24))) := by
  obtain ⟨⟨hn, hv4⟩, -⟩ := id hW
  obtain ⟨a', v', hr, he, h1, hV⟩ := r_settle (E := E) (t := t) (r := r) hW hS
  have hW' := hW.moved he
  obtain ⟨⟨-, hv4'⟩, -⟩ := id hW'
  refine ⟨a', v', ?_, he, Or.inr ⟨h1, hV⟩⟩
  obtain ⟨hV1, hV2, hV3⟩ := hV
  rw [cW_eq he] at hV1
  rw [cDr_eq he] at hV2
  repeat refine Rn.step rfl ?_
  refine Rn.calli rfl rfl rfl (by decide) (r_isLog (nI l)) (fun x0 e0 => ?_)
  refine Rn.br2 rfl (by rw [e0, ib_eq0]; exact fun q => q (by rw [hv4]; exact inB_nI hl (by omega))) ?_
  repeat refine Rn.step rfl ?_
  refine Rn.calli rfl rfl rfl (by decide) (r_within 0 3 _) (fun x1 e1 => ?_)
  refine Rn.br1 rfl (by rw [e1, ib_ne0]; exact by decide) ?_
  repeat refine Rn.step rfl ?_
  refine Rn.callv rfl rfl rfl (by decide) hr ?_
  repeat refine Rn.step rfl ?_
  refine Rn.calli rfl rfl rfl (by decide) (r_minOut (l := l) (by omega)) (fun z1 f1 => ?_)
  rw [moF_congr (fun i hi => (hV2 i l hi hl).1) 24 0 (by omega)] at f1
  rw [← f1]
  exact Rn.ret rfl
theorem r_out1 {n k q : Nat} {mn sm : Nat → Nat} (hW : WfX a v n k q mn sm) (hS : SetX a v mn k n) {l : Nat} (hl : l < n) : AX E 3 mX7_out [(0, .ref 0), (1, .int (nI l)), (2, .int 1)] a v t r mn k n (some (.int (miF (cDr a mn k n).2.1 l 1))) := by
  obtain ⟨⟨hn, hv4⟩, -⟩ := id hW
  obtain ⟨a', v', hr, he, h1, hV⟩ := r_settle (E := E) (t := t) (r := r) hW hS
  have hW' := hW.moved he
  obtain ⟨⟨-, hv4'⟩, -⟩ := id hW'
  refine ⟨a', v', ?_, he, Or.inr ⟨h1, hV⟩⟩
  obtain ⟨hV1, hV2, hV3⟩ := hV
  rw [cW_eq he] at hV1
  rw [cDr_eq he] at hV2
  repeat refine Rn.step rfl ?_
  refine Rn.calli rfl rfl rfl (by decide) (r_isLog (nI l)) (fun x0 e0 => ?_)
  refine Rn.br2 rfl (by rw [e0, ib_eq0]; exact fun q => q (by rw [hv4]; exact inB_nI hl (by omega))) ?_
  repeat refine Rn.step rfl ?_
  refine Rn.calli rfl rfl rfl (by decide) (r_within 1 3 _) (fun x1 e1 => ?_)
  refine Rn.br1 rfl (by rw [e1, ib_ne0]; exact by decide) ?_
  repeat refine Rn.step rfl ?_
  refine Rn.callv rfl rfl rfl (by decide) hr ?_
  repeat refine Rn.step rfl ?_
  refine Rn.calli rfl rfl rfl (by decide) (r_minIn1 (l := l) (by omega) 1) (fun z1 f1 => ?_)
  rw [miF_congr (fun i hi => (hV2 i l hi hl).2)] at f1
  rw [← f1]
  exact Rn.ret rfl
theorem r_out2 {n k q : Nat} {mn sm : Nat → Nat} (hW : WfX a v n k q mn sm) (hS : SetX a v mn k n) {l : Nat} (hl : l < n) : AX E 3 mX7_out [(0, .ref 0), (1, .int (nI l)), (2, .int 2)] a v t r mn k n (some (.int (miF (cDr a mn k n).2.1 l 2))) := by
  obtain ⟨⟨hn, hv4⟩, -⟩ := id hW
  obtain ⟨a', v', hr, he, h1, hV⟩ := r_settle (E := E) (t := t) (r := r) hW hS
  have hW' := hW.moved he
  obtain ⟨⟨-, hv4'⟩, -⟩ := id hW'
  refine ⟨a', v', ?_, he, Or.inr ⟨h1, hV⟩⟩
  obtain ⟨hV1, hV2, hV3⟩ := hV
  rw [cW_eq he] at hV1
  rw [cDr_eq he] at hV2
  repeat refine Rn.step rfl ?_
  refine Rn.calli rfl rfl rfl (by decide) (r_isLog (nI l)) (fun x0 e0 => ?_)
  refine Rn.br2 rfl (by rw [e0, ib_eq0]; exact fun q => q (by rw [hv4]; exact inB_nI hl (by omega))) ?_
  repeat refine Rn.step rfl ?_
  refine Rn.calli rfl rfl rfl (by decide) (r_within 2 3 _) (fun x1 e1 => ?_)
  refine Rn.br1 rfl (by rw [e1, ib_ne0]; exact by decide) ?_
  repeat refine Rn.step rfl ?_
  refine Rn.callv rfl rfl rfl (by decide) hr ?_
  repeat refine Rn.step rfl ?_
  refine Rn.calli rfl rfl rfl (by decide) (r_minIn1 (l := l) (by omega) 2) (fun z1 f1 => ?_)
  rw [miF_congr (fun i hi => (hV2 i l hi hl).2)] at f1
  rw [← f1]
  exact Rn.ret rfl
theorem r_left_bad (x : Int32) (hb : ¬ (inB x 2)) : Rn E 3 mX7_left (0, [(0, .ref 0), (1, .int x)], [], wX a v t r) ((some (.int (-2))), wX a v t r) := by
  repeat refine Rn.step rfl ?_
  refine Rn.calli rfl rfl rfl (by decide) (r_within x 2 _) (fun x0 e0 => ?_)
  refine Rn.br2 rfl (fun h0 => hb (ib_ne0.mp (e0 ▸ h0))) ?_
  repeat refine Rn.step rfl ?_
  exact Rn.ret rfl
theorem r_left0 {n k q : Nat} {mn sm : Nat → Nat} (hW : WfX a v n k q mn sm) (hS : SetX a v mn k n) : AX E 3 mX7_left [(0, .ref 0), (1, .int 0)] a v t r mn k n (some (.int (drF (cW a mn k)))) := by
  obtain ⟨⟨hn, hv4⟩, -⟩ := id hW
  obtain ⟨a', v', hr, he, h1, hV⟩ := r_settle (E := E) (t := t) (r := r) hW hS
  have hW' := hW.moved he
  obtain ⟨⟨-, hv4'⟩, -⟩ := id hW'
  refine ⟨a', v', ?_, he, Or.inr ⟨h1, hV⟩⟩
  obtain ⟨hV1, hV2, hV3⟩ := hV
  rw [cW_eq he] at hV1
  rw [cDr_eq he] at hV2
  repeat refine Rn.step rfl ?_
  refine Rn.calli rfl rfl rfl (by decide) (r_within 0 2 _) (fun x0 e0 => ?_)
  refine Rn.br1 rfl (by rw [e0, ib_ne0]; exact by decide) ?_
  repeat refine Rn.step rfl ?_
  refine Rn.callv rfl rfl rfl (by decide) hr ?_
  repeat refine Rn.step rfl ?_
  refine Rn.calli rfl rfl rfl (by decide) r_dryBits (fun z1 f1 => ?_)
  rw [drF_congr hV1] at f1
  refine Rn.step rfl ?_
  rw [← f1]
  exact Rn.ret rfl
theorem r_left1 {n k q : Nat} {mn sm : Nat → Nat} (hW : WfX a v n k q mn sm) (hS : SetX a v mn k n) : AX E 3 mX7_left [(0, .ref 0), (1, .int 1)] a v t r mn k n (some (.int (evB n &&& (obF (cDr a mn k n).1 n ^^^ -1)))) := by
  obtain ⟨⟨hn, hv4⟩, -⟩ := id hW
  obtain ⟨a', v', hr, he, h1, hV⟩ := r_settle (E := E) (t := t) (r := r) hW hS
  have hW' := hW.moved he
  obtain ⟨⟨-, hv4'⟩, -⟩ := id hW'
  refine ⟨a', v', ?_, he, Or.inr ⟨h1, hV⟩⟩
  obtain ⟨hV1, hV2, hV3⟩ := hV
  rw [cW_eq he] at hV1
  rw [cDr_eq he] at hV2
  repeat refine Rn.step rfl ?_
  refine Rn.calli rfl rfl rfl (by decide) (r_within 1 2 _) (fun x0 e0 => ?_)
  refine Rn.br1 rfl (by rw [e0, ib_ne0]; exact by decide) ?_
  repeat refine Rn.step rfl ?_
  refine Rn.callv rfl rfl rfl (by decide) hr ?_
  repeat refine Rn.step rfl ?_
  refine Rn.calli rfl rfl rfl (by decide) r_logBits (fun z1 f1 => ?_)
  repeat refine Rn.step rfl ?_
  refine Rn.calli rfl rfl rfl (by decide) (r_outBits1 hn hv4') (fun z2 f2 => ?_)
  rw [hv4'] at f1
  rw [obF_congr (fun l hl => (hV2 23 l (by decide) hl).1)] at f2
  repeat refine Rn.step rfl ?_
  rw [← f2, show evB n = z1 from f1.symm]
  exact Rn.ret rfl
/-- the first minute with a state 2 -/
def jmR (S : Nat → Int32) (m : Nat) : Nat → Nat → Bool
  | _, 0 => false
  | i, j + 1 => decide (S (m * 8 + i) = 2) || jmR S m (i + 1) j
def jmF (S : Nat → Int32) (n : Nat) : Nat → Nat → Int32
  | _, 0 => -1
  | i, j + 1 => if jmR S i 0 n = true then nI i else jmF S n (i + 1) j
theorem jmR_congr {S S' : Nat → Int32} {m n : Nat} (h : ∀ l, l < n → S (m * 8 + l) = S' (m * 8 + l)) : ∀ j i, i + j ≤ n → jmR S m i j = jmR S' m i j := by
  intro j
  induction j with
  | zero => intro i _; rfl
  | succ j ih =>
    intro i hi
    unfold jmR
    rw [h i (by omega), ih (i + 1) (by omega)]
theorem jmF_congr {S S' : Nat → Int32} {n : Nat} (h : ∀ m l, m < 24 → l < n → S (m * 8 + l) = S' (m * 8 + l)) : ∀ j i, i + j ≤ 24 → jmF S n i j = jmF S' n i j := by
  intro j
  induction j with
  | zero => intro i _; rfl
  | succ j ih =>
    intro i hi
    unfold jmF
    rw [jmR_congr (fun l hl => h i l (by omega) hl) n 0 (by omega), ih (i + 1) (by omega)]
theorem r_jam {n k q : Nat} {mn sm : Nat → Nat} (hW : WfX a v n k q mn sm) (hS : SetX a v mn k n) : AX E 3 mX7_jam [(0, .ref 0)] a v t r mn k n (some (.int (jmF (cDr a mn k n).2.1 n 0 24))) := by
  obtain ⟨⟨hn, hv4⟩, -⟩ := id hW
  obtain ⟨a', v', hr, he, h1, hV⟩ := r_settle (E := E) (t := t) (r := r) hW hS
  have hW' := hW.moved he
  obtain ⟨⟨-, hv4'⟩, -⟩ := id hW'
  refine ⟨a', v', ?_, he, Or.inr ⟨h1, hV⟩⟩
  obtain ⟨hV1, hV2, hV3⟩ := hV
  rw [cW_eq he] at hV1
  rw [cDr_eq he] at hV2
  repeat refine Rn.step rfl ?_
  refine Rn.callv rfl rfl rfl (by decide) hr ?_
  rw [← jmF_congr (fun m l hm hl => (hV2 m l hm hl).2) 24 0 (by omega)]
  have key : ∀ j i, i + j = 24 → Rn E 3 mX7_jam (6, [(1, .int (nI i)), (0, .ref 0)], [], wX a' v' t r) (some (.int (jmF (a' 24) n i j)), wX a' v' t r) := by
    intro j
    induction j with
    | zero =>
      intro i hi
      obtain rfl : i = 24 := by omega
      repeat refine Rn.step rfl ?_
      exact Rn.ret rfl
    | succ j ih =>
      intro i hi
      have k3 := ih (i + 1) (by omega)
      rw [nI_succ] at k3
      have key2 : ∀ c l, l + c = n → jmR (a' 24) i 0 n = jmR (a' 24) i l c → Rn E 3 mX7_jam (14, [(2, .int (nI l)), (1, .int (nI i)), (0, .ref 0)], [], wX a' v' t r) (some (.int (jmF (a' 24) n i (j + 1))), wX a' v' t r) := by
        intro c
        induction c with
        | zero =>
          intro l hl hq
          repeat refine Rn.step rfl ?_
          refine Rn.br1 rfl (by rw [hv4']; exact nI_le (by omega) (by omega)) ?_
          rw [show jmF (a' 24) n i (j + 1) = jmF (a' 24) n (i + 1) j from if_neg (by rw [hq]; exact Bool.false_ne_true)]
          iterate 2 refine Rn.step rfl ?_
          exact Rn.sub (by exact ⟨rfl, rfl, trivial⟩) k3
        | succ c ih2 =>
          intro l hl hq
          repeat refine Rn.step rfl ?_
          refine Rn.br2 rfl (by rw [hv4']; exact nle (by omega) (by omega)) ?_
          repeat refine Rn.step rfl ?_
          refine Rn.ald (i * 8 + l) rfl (ix_ma i 8 l) (by omega) (by decide) ?_
          repeat refine Rn.step rfl ?_
          refine Rn.br rfl (fun g1 => ?_) (fun g1 => ?_)
          · iterate 2 refine Rn.step rfl ?_
            have k4 := ih2 (l + 1) (by omega) (by rw [hq]; show (decide (a' 24 (i * 8 + l) = 2) || _) = _; rw [decide_eq_false g1, Bool.false_or])
            rw [nI_succ] at k4
            exact k4
          · rw [show jmF (a' 24) n i (j + 1) = nI i from if_pos (by rw [hq]; show (decide (a' 24 (i * 8 + l) = 2) || _) = _; rw [decide_eq_true (Decidable.not_not.mp g1), Bool.true_or])]
            repeat refine Rn.step rfl ?_
            exact Rn.ret rfl
      repeat refine Rn.step rfl ?_
      refine Rn.br2 rfl (nle (n := 24) (by omega) (by decide)) ?_
      iterate 2 refine Rn.step rfl ?_
      exact key2 n 0 (by omega) rfl
  iterate 2 refine Rn.step rfl ?_
  exact key 24 0 rfl
def woF (S : Nat → Int32) (n : Nat) : Int32 × Int32 := lp (fun l (x : Int32 × Int32) => if ¬ miF S l 1 ≤ x.2 then (nI l, miF S l 1) else x) 0 n (-1, 0)
theorem woF_congr {f g : Nat → Int32} {n : Nat} (h : ∀ i l, i < 24 → l < n → f (i * 8 + l) = g (i * 8 + l)) : woF f n = woF g n := lp_congr (fun l x _ hs => by rw [miF_congr (fun i hi => h i l hi (by omega))])
theorem r_worst {n k q : Nat} {mn sm : Nat → Nat} (hW : WfX a v n k q mn sm) (hS : SetX a v mn k n) : AX E 3 mX7_worst [(0, .ref 0)] a v t r mn k n (some (.int ((woF (cDr a mn k n).2.1 n).1))) := by
  obtain ⟨⟨hn, hv4⟩, -⟩ := id hW
  obtain ⟨a', v', hr, he, h1, hV⟩ := r_settle (E := E) (t := t) (r := r) hW hS
  have hW' := hW.moved he
  obtain ⟨⟨-, hv4'⟩, -⟩ := id hW'
  refine ⟨a', v', ?_, he, Or.inr ⟨h1, hV⟩⟩
  obtain ⟨hV1, hV2, hV3⟩ := hV
  rw [cW_eq he] at hV1
  rw [cDr_eq he] at hV2
  repeat refine Rn.step rfl ?_
  refine Rn.callv rfl rfl rfl (by decide) hr ?_
  rw [← woF_congr (fun i l hi hl => (hV2 i l hi hl).2)]
  iterate 6 refine Rn.step rfl ?_
  refine Rn.lp (σ := Int32 × Int32) (cfg := fun l x => (10, [(3, .int (nI l)), (2, .int x.2), (1, .int x.1), (0, .ref 0)], [], wX a' v' t r)) (f := fun l (x : Int32 × Int32) => if ¬ miF (a' 24) l 1 ≤ x.2 then (nI l, miF (a' 24) l 1) else x) (n := n) (fun _ _ => True) (fun l x hl _ => ⟨trivial, fun k => ?_⟩) n 0 (-1, 0) (by omega) trivial (fun x0 hx0 _ => ?_)
  · rw [nI_succ] at k
    repeat refine Rn.step rfl ?_
    refine Rn.br2 rfl (by rw [hv4']; exact nle hl (by omega)) ?_
    repeat refine Rn.step rfl ?_
    refine Rn.calli rfl rfl rfl (by decide) (r_minIn1 (l := l) (by omega) 1) (fun z1 f1 => ?_)
    repeat refine Rn.step rfl ?_
    refine Rn.br rfl (fun g1 => ?_) (fun g1 => ?_)
    · rw [f1] at g1
      rw [if_neg (fun q => q g1)] at k
      iterate 2 refine Rn.step rfl ?_
      exact Rn.sub (by exact ⟨rfl, rfl, rfl, rfl, trivial⟩) k
    · rw [f1] at g1
      rw [if_pos g1] at k
      iterate 6 refine Rn.step rfl ?_
      rw [f1]
      exact Rn.sub (by exact ⟨rfl, rfl, rfl, rfl, trivial⟩) k
  · repeat refine Rn.step rfl ?_
    refine Rn.br1 rfl (by rw [hv4']; exact Int32.le_refl _) ?_
    repeat refine Rn.step rfl ?_
    have e0 : x0 = woF (a' 24) n := hx0
    rw [← e0]
    exact Rn.ret rfl
end XA
end
section
section XB
variable {E : iExtT} {a : Nat → Nat → Int32} {v : Nat → Int32} {t : Nat → Nat → Int64} {r : List va_E}
/-- nothing has changed but the rows for what would be -/
def eqS (a : Nat → Nat → Int32) (v : Nat → Int32) (a' : Nat → Nat → Int32) (v' : Nat → Int32) : Prop := (∀ k, k ∉ [28, 29, 30, 32, 33, 34, 35, 36] → a' k = a k) ∧ ∀ k, k ∉ [2, 3, 9, 10] → v' k = v k
theorem eqS.rf : eqS a v a v := ⟨fun _ _ => rfl, fun _ _ => rfl⟩
theorem eqS.trans {a' a'' : Nat → Nat → Int32} {v' v'' : Nat → Int32} (h1 : eqS a v a' v') (h2 : eqS a' v' a'' v'') : eqS a v a'' v'' := ⟨fun k hk => (h2.1 k hk).trans (h1.1 k hk), fun k hk => (h2.2 k hk).trans (h1.2 k hk)⟩
theorem eqS.up {a' : Nat → Nat → Int32} {v' : Nat → Int32} (h : eqS a v a' v') (k : Nat) (hk : k ∈ [28, 29, 30, 32, 33, 34, 35, 36]) (f : Nat → Int32) : eqS a v (va_up a' k f) v' := ⟨fun j hj => by
  have hne : j ≠ k := fun q => hj (q ▸ hk)
  show (if j = k then f else a' j) = a j; rw [if_neg hne]; exact h.1 j hj, h.2⟩
theorem eqS.upv {a' : Nat → Nat → Int32} {v' : Nat → Int32} (h : eqS a v a' v') (k : Nat) (hk : k ∈ [2, 3, 9, 10]) (x : Int32) : eqS a v a' (upd v' k x) := ⟨h.1, fun j hj => by
  have hne : j ≠ k := fun q => hj (q ▸ hk)
  rw [pk_un hne]; exact h.2 j hj⟩
theorem eqS.eqT {a' : Nat → Nat → Int32} {v' : Nat → Int32} (h : eqS a v a' v') : eqT a v a' v' := by
  refine ⟨fun k hk => h.1 k ?_, fun k hk => h.2 k ?_⟩
  · intro q
    simp only [List.mem_cons, List.not_mem_nil, or_false] at hk q
    omega
  · intro q
    simp only [List.mem_cons, List.not_mem_nil, or_false] at hk q
    omega
/-- the other drive's rows -/
def HdS (a : Nat → Nat → Int32) (n : Nat) (x : dS) : Prop := ∀ i l, i < 24 → l < n → a 32 (i * 8 + l) = x.1 (i * 8 + l) ∧ a 33 (i * 8 + l) = x.2.1 (i * 8 + l)
theorem r_oPour (kp : Int32) {F k : Nat} (hF : F = 5 ∨ F = 36) (hk : k ≤ 8) (hv : v 5 = nI k) {mn : Nat → Nat} (hmn : ∀ e, e < k → a 11 e = nI (mn e) ∧ mn e < 24) : ∃ (a2 : Nat → Nat → Int32), Rn E 1 mX6_pour (0, [(0, .ref 27), (1, .ref F), (2, .ref 9), (3, .int kp)], [], wX a v t r) (none, wX a2 v t r) ∧ eqS a v a2 v ∧ ∀ j, j < 384 → a2 28 j = cwl (a 10) (a 12) mn k (a F) kp j := by
  have hmn' : ∀ e, e < k → mn e < 24 := fun e he => (hmn e he).2
  obtain ⟨SH, hSH⟩ : ∃ f, f = mkA (a 10) mn (a 12) k 1 kp (a 29) := ⟨_, rfl⟩
  obtain ⟨BU, hBU⟩ : ∃ f, f = mkA (a 10) mn (a 12) k 2 kp (a 30) := ⟨_, rfl⟩
  refine ⟨va_up (va_up (va_up a 29 SH) 30 BU) 28 (wlA (a F) SH BU (a 28)), ?_, ((eqS.rf.up 29 (by decide) _).up 30 (by decide) _).up 28 (by decide) _, fun j hj => ?_⟩
  · rcases hF with rfl | rfl
    · exact r_pour2 kp hk hv hmn hSH hBU
    · exact r_pour3 kp hk hv hmn hSH hBU
  · show wlA (a F) SH BU (a 28) j = _
    rw [hSH, hBU]
    exact cwl_of hmn' _ _ _ hj
theorem r_oRun {W : Nat} (hWw : W = 18 ∨ W = 27) (kp : Int32) {n k : Nat} (hn : n ≤ 8) (hv4 : v 4 = nI n) (hk : k ≤ 8) (hv : v 5 = nI k) {mn : Nat → Nat} (hmn : ∀ e, e < k → a 11 e = nI (mn e) ∧ mn e < 24) {wl : Nat → Int32} (hwl : ∀ j, j < 384 → a (W + 1) j = wl j) : ∃ (a2 : Nat → Nat → Int32) (v2 : Nat → Int32), Rn E 1 mX0_run (0, [(0, .ref 31), (1, .ref 3), (2, .ref W), (3, .ref 9), (4, .int kp)], [], wX a v t r) (none, wX a2 v2 t r) ∧ eqS a v a2 v2 ∧ v2 2 = v 2 ∧ v2 3 = v 3 ∧ HdS a2 n (crn (a 10) (a 12) mn k n (a 4) (a 7) (a 8) (a 6) wl kp) := by
  have hmn' : ∀ e, e < k → mn e < 24 := fun e he => (hmn e he).2
  obtain ⟨PO, hPO⟩ : ∃ f, f = mkA (a 10) mn (a 12) k 0 kp (a 34) := ⟨_, rfl⟩
  obtain ⟨x, hx⟩ : ∃ x : dS, x = rnF n (a 4) (a 7) (a 8) (a 6) (a (W + 1)) PO (a 32, a 33, a 35, 0, sh1 (v 4) - 1) := ⟨_, rfl⟩
  have hR : dRel n 24 x (crn (a 10) (a 12) mn k n (a 4) (a 7) (a 8) (a 6) wl kp) := by
    rw [hx, hPO]
    have e4 : sh1 (v 4) - 1 = sh1 (nI n) - 1 := by rw [hv4]
    rw [e4]
    exact crn_of hn hmn' hwl _ _ _ _ _
  refine ⟨va_up (va_up (va_up (va_up a 34 PO) 32 x.1) 33 x.2.1) 35 x.2.2.1, upd (upd v 9 (nI x.2.2.2.1)) 10 x.2.2.2.2, ?_, (((((eqS.rf.up 34 (by decide) _).up 32 (by decide) _).up 33 (by decide) _).up 35 (by decide) _).upv 9 (by decide) _).upv 10 (by decide) _, rfl, rfl, fun i l hi hl => hR.1 i l hi hl⟩
  rcases hWw with rfl | rfl
  · exact r_run2 kp hn hv4 hk hv hmn hPO hx
  · exact r_run3 kp hn hv4 hk hv hmn hPO hx
abbrev us (x c : Int32) : Int32 := (x.toUInt32 >>> (c.toUInt32 &&& Int32.toUInt32 31)).toInt32
def bc1 (x : Int32) : Int32 := x - (us x 1 &&& 1431655765)
def bc2 (x : Int32) : Int32 := (x &&& 858993459) + (us x 2 &&& 858993459)
def bc3 (x : Int32) : Int32 := (x + us x 4) &&& 252645135
def bc4 (x : Int32) : Int32 := x + us x 8
def bc5 (x : Int32) : Int32 := x + us x 16
/-- Java's count of the bits -/
def bcF (x : Int32) : Int32 := bc5 (bc4 (bc3 (bc2 (bc1 x)))) &&& 63
theorem r_bitCount (x : Int32) (h : List va_E) : Rn E 0 mJ6_bitCount_0f7a4 (0, [(0, .int x)], [], h) (some (.int (bcF x)), h) := by
  repeat refine Rn.step rfl ?_
  exact Rn.ret rfl
theorem r_weigh {n : Nat} (hn : n ≤ 8) (hv4 : v 4 = nI n) (c : Int32) {x : dS} (hH : HdS a n x) : Rn E 1 mX7_weigh (0, [(0, .ref 0), (1, .int c)], [], wX a v t r) (none, wX a (if ¬ bcF (obF x.1 n) ≤ v 3 then upd (upd v 3 (bcF (obF x.1 n))) 2 c else v) t r) := by
  repeat refine Rn.step rfl ?_
  refine Rn.calli rfl rfl rfl (by decide) (r_outBits2 hn hv4) (fun z1 f1 => ?_)
  rw [obF_congr (fun l hl => (hH 23 l (by decide) hl).1)] at f1
  refine Rn.calli rfl rfl rfl (by decide) (r_bitCount z1 _) (fun z2 f2 => ?_)
  rw [f1] at f2
  repeat refine Rn.step rfl ?_
  refine Rn.br rfl (fun h1 => ?_) (fun h1 => ?_)
  · rw [if_neg (fun q => q (f2 ▸ h1))]
    exact Rn.ret rfl
  · rw [if_pos (f2 ▸ h1), ← f2]
    repeat refine Rn.step rfl ?_
    exact Rn.ret rfl
/-- of what comes out the best so far: which, how many -/
abbrev bs (x : Int32 × Int32) (c o : Int32) : Int32 × Int32 := if ¬ o ≤ x.2 then (c, o) else x
theorem Rn.lpx {hh : Nat} {M : iMeth} {σ : Type} {cfg : Nat → σ → iCfg} {n : Nat} (I : Nat → σ → Prop) (hs : ∀ i s, i < n → I i s → ∃ s', I (i + 1) s' ∧ ∀ o, Rn E hh M (cfg (i + 1) s') o → Rn E hh M (cfg i s) o) : ∀ (j i : Nat) (s : σ), i + j = n → I i s → ∃ s', I n s' ∧ ∀ o, Rn E hh M (cfg n s') o → Rn E hh M (cfg i s) o := by
  intro j
  induction j with
  | zero =>
    intro i s hi hI
    obtain rfl : i = n := by omega
    exact ⟨s, hI, fun o k => k⟩
  | succ j ih =>
    intro i s hi hI
    obtain ⟨s1, h1, k1⟩ := hs i s (by omega) hI
    obtain ⟨s2, h2, k2⟩ := ih (i + 1) s1 (by omega) h1
    exact ⟨s2, h2, fun o k => k1 o (k2 o k)⟩
theorem upd_back (f : Nat → Int32) (l : Nat) (c : Int32) : upd (upd f l c) l (f l) = f := by
  funext j
  by_cases h : j = l
  · subst h; exact pk_us
  · rw [pk_un h, pk_un h]
theorem upd_self (f : Nat → Int32) (l : Nat) : upd f l (f l) = f := by
  funext j
  by_cases h : j = l
  · subst h; exact pk_us
  · rw [pk_un h]
theorem upd_upd (f : Nat → Int32) (l : Nat) (c d : Int32) : upd (upd f l c) l d = upd f l d := by
  funext j
  by_cases h : j = l
  · subst h; rw [pk_us, pk_us]
  · rw [pk_un h, pk_un h, pk_un h]
theorem r_startSearch {n k q : Nat} {mn sm : Nat → Nat} (hW : WfX a v n k q mn sm) (hS : SetX a v mn k n) : ∃ (a' : Nat → Nat → Int32) (v' : Nat → Int32), Rn E 3 mX7_startSearch (0, [(0, .ref 0)], [], wX a v t r) (none, wX a' v' t r) ∧ eqT a v a' v' ∧ v' 1 = 1 ∧ ValX a' mn k n ∧ v' 2 = -1 ∧ v' 3 = -1 := by
  obtain ⟨a', v', hr, he, h1, hV⟩ := r_settle (E := E) (t := t) (r := r) hW hS
  refine ⟨a', upd (upd v' 2 (-1)) 3 (-1), ?_, ⟨he.1, fun j hj => ?_⟩, h1, hV, rfl, rfl⟩
  · repeat refine Rn.step rfl ?_
    refine Rn.callv rfl rfl rfl (by decide) hr ?_
    repeat refine Rn.step rfl ?_
    exact Rn.ret rfl
  · have h2 : j ≠ 2 ∧ j ≠ 3 := by
      simp only [List.mem_cons, List.not_mem_nil, or_false] at hj
      omega
    rw [pk_un h2.2, pk_un h2.1]
    exact he.2 j hj
/-- SEND -/
def sdF (kda nu : Nat → Int32) (mn : Nat → Nat) (k n : Nat) (sl de ta st wl : Nat → Int32) (l : Nat) : Int32 × Int32 := lp (fun m x => bs x (nI m) (bcF (obF (crn kda nu mn k n sl de ta (upd st l (nI m)) wl (evB k)).1 n))) 0 24 (-1, -1)
def spF (kda nu : Nat → Int32) (mn : Nat → Nat) (k n : Nat) (sl de ta st wl : Nat → Int32) : Int32 × Int32 := lp (fun s x => bs x (nI s) (bcF (obF (crn kda nu mn k n (upd sl s (if 3 < sl s + 1 then 3 else sl s + 1)) de ta st wl (evB k)).1 n))) 0 16 (-1, -1)
def flF (kda nu : Nat → Int32) (mn : Nat → Nat) (k n : Nat) (sl fe de ta st : Nat → Int32) : Int32 × Int32 := lp (fun s x => bs x (nI s) (bcF (obF (crn kda nu mn k n sl de ta st (cwl kda nu mn k (upd fe s (if 9 < fe s + 2 then 9 else fe s + 2)) (evB k)) (evB k)).1 n))) 0 16 (-1, -1)
end XB
end
section
section XC
variable {E : iExtT} {a : Nat → Nat → Int32} {v : Nat → Int32} {t : Nat → Nat → Int64} {r : List va_E}
theorem ValX_congr {a' : Nat → Nat → Int32} {mn : Nat → Nat} {k n : Nat} (h : ∀ j ∈ [4, 5, 6, 7, 8, 10, 12, 19, 23, 24, 37], a' j = a j) (hV : ValX a mn k n) : ValX a' mn k n := by
  unfold ValX cW cDr oC at hV ⊢
  rw [h 4 (by decide), h 5 (by decide), h 6 (by decide), h 7 (by decide), h 8 (by decide), h 10 (by decide), h 12 (by decide), h 19 (by decide), h 23 (by decide), h 24 (by decide), h 37 (by decide)]
  exact hV
/-- the state of a search: what has changed is row R at place p (X: the row as it was), the rest as a', v' -/
def SrI (R : Nat) (a' : Nat → Nat → Int32) (v' : Nat → Int32) (X : Nat → Int32) (s : (Nat → Nat → Int32) × (Nat → Int32)) : Prop := s.1 R = X ∧ (∀ k, k ∉ [28, 29, 30, 32, 33, 34, 35, 36] → k ≠ R → s.1 k = a' k) ∧ ∀ k, k ∉ [2, 3, 9, 10] → s.2 k = v' k
theorem SrI.up {R : Nat} {a' : Nat → Nat → Int32} {v' : Nat → Int32} {X : Nat → Int32} {s : (Nat → Nat → Int32) × (Nat → Int32)} (h : SrI R a' v' X s) (Y : Nat → Int32) : SrI R a' v' Y (va_up s.1 R Y, s.2) := ⟨if_pos rfl, fun k h1 h2 => by show (if k = R then Y else s.1 k) = _; rw [if_neg h2]; exact h.2.1 k h1 h2, h.2.2⟩
theorem SrI.eqS {R : Nat} (hR : R ∉ [28, 29, 30, 32, 33, 34, 35, 36]) {a' : Nat → Nat → Int32} {v' : Nat → Int32} {X : Nat → Int32} {s : (Nat → Nat → Int32) × (Nat → Int32)} (h : SrI R a' v' X s) {a2 : Nat → Nat → Int32} {v2 : Nat → Int32} (he : eqS s.1 s.2 a2 v2) : SrI R a' v' X (a2, v2) := ⟨(he.1 R hR).trans h.1, fun k h1 h2 => (he.1 k h1).trans (h.2.1 k h1 h2), fun k h1 => (he.2 k h1).trans (h.2.2 k h1)⟩
theorem SrI.upv {R : Nat} {a' : Nat → Nat → Int32} {v' : Nat → Int32} {X : Nat → Int32} {a2 : Nat → Nat → Int32} {v2 v3 : Nat → Int32} (h : SrI R a' v' X (a2, v2)) (he : ∀ k, k ∉ [2, 3, 9, 10] → v3 k = v2 k) : SrI R a' v' X (a2, v3) := ⟨h.1, h.2.1, fun k h1 => (he k h1).trans (h.2.2 k h1)⟩
theorem wg_v (v2 : Nat → Int32) (o c : Int32) : (∀ k, k ∉ [2, 3, 9, 10] → (if ¬ o ≤ v2 3 then upd (upd v2 3 o) 2 c else v2) k = v2 k) ∧ ((if ¬ o ≤ v2 3 then upd (upd v2 3 o) 2 c else v2) 2, (if ¬ o ≤ v2 3 then upd (upd v2 3 o) 2 c else v2) 3) = bs (v2 2, v2 3) c o := by
  by_cases h : o ≤ v2 3
  · have e : (if ¬ o ≤ v2 3 then upd (upd v2 3 o) 2 c else v2) = v2 := if_neg (fun q => q h)
    rw [e]
    exact ⟨fun _ _ => rfl, (if_neg (fun q => q h)).symm⟩
  · have e : (if ¬ o ≤ v2 3 then upd (upd v2 3 o) 2 c else v2) = upd (upd v2 3 o) 2 c := if_pos h
    rw [e]
    refine ⟨fun k hk => ?_, (if_pos h).symm⟩
    have h2 : k ≠ 2 ∧ k ≠ 3 := by
      simp only [List.mem_cons, List.not_mem_nil, or_false] at hk
      omega
    rw [pk_un h2.1, pk_un h2.2]
theorem r_searchSend {n k q : Nat} {mn sm : Nat → Nat} (hW : WfX a v n k q mn sm) (hS : SetX a v mn k n) {l : Nat} (hl : l < n) : ∃ (a' : Nat → Nat → Int32) (v' : Nat → Int32), Rn E 4 mX7_searchSend (0, [(0, .ref 0), (1, .int (nI l))], [], wX a v t r) (none, wX a' v' t r) ∧ eqT a v a' v' ∧ v' 1 = 1 ∧ ValX a' mn k n ∧ (v' 2, v' 3) = sdF (a 10) (a 12) mn k n (a 4) (a 7) (a 8) (a 6) (cW a mn k) l := by
  obtain ⟨a', v', hr, he, h1, hV, hb2, hb3⟩ := r_startSearch (E := E) (t := t) (r := r) hW hS
  have hW' := hW.moved he
  obtain ⟨⟨hn, hv4⟩, ⟨hk, hv5, hmn⟩, -⟩ := id hW'
  have hV1 := hV.1
  rw [cW_eq he] at hV1
  have eB : sh1 (v' 5) - 1 = evB k := by rw [hv5]; rfl
  have e10 := he.1 10 (by decide)
  have e12 := he.1 12 (by decide)
  have e4 := he.1 4 (by decide)
  have e5 := he.1 5 (by decide)
  have e6 := he.1 6 (by decide)
  have e7 := he.1 7 (by decide)
  have e8 := he.1 8 (by decide)
  have hstep : ∀ (m : Nat) (s : (Nat → Nat → Int32) × (Nat → Int32)), m < 24 → ((∃ c, SrI 6 a' v' (upd (a' 6) l c) s) ∧ (s.2 2, s.2 3) = lp (fun m x => bs x (nI m) (bcF (obF (crn (a 10) (a 12) mn k n (a 4) (a 7) (a 8) (upd (a 6) l (nI m)) (cW a mn k) (evB k)).1 n))) 0 m (-1, -1)) → ∃ s' : (Nat → Nat → Int32) × (Nat → Int32), ((∃ c, SrI 6 a' v' (upd (a' 6) l c) s') ∧ (s'.2 2, s'.2 3) = lp (fun m x => bs x (nI m) (bcF (obF (crn (a 10) (a 12) mn k n (a 4) (a 7) (a 8) (upd (a 6) l (nI m)) (cW a mn k) (evB k)).1 n))) 0 (m + 1) (-1, -1)) ∧ ∀ o, Rn E 4 mX7_searchSend ((16, [(3, .int (nI (m + 1))), (2, .int (a' 6 l)), (0, .ref 0), (1, .int (nI l))], [], wX s'.1 s'.2 t r)) o → Rn E 4 mX7_searchSend ((16, [(3, .int (nI m)), (2, .int (a' 6 l)), (0, .ref 0), (1, .int (nI l))], [], wX s.1 s.2 t r)) o := by
    intro m s hm hI
    obtain ⟨⟨c, hI1⟩, hI2⟩ := hI
    have hJ := hI1.up (upd (a' 6) l (nI m))
    obtain ⟨a1, ha1⟩ : ∃ a1, a1 = va_up s.1 6 (upd (a' 6) l (nI m)) := ⟨_, rfl⟩
    rw [← ha1] at hJ
    have jA : a1 6 = upd (a' 6) l (nI m) := hJ.1
    have jB : ∀ k, k ∉ [28, 29, 30, 32, 33, 34, 35, 36] → k ≠ 6 → a1 k = a' k := hJ.2.1
    have g11 := jB 11 (by decide) (by decide)
    have g19 := jB 19 (by decide) (by decide)
    obtain ⟨a2, v2, hr2, hs2, hq2, hq3, hH⟩ := r_oRun (E := E) (a := a1) (v := s.2) (t := t) (r := r) (W := 18) (Or.inl rfl) (evB k) hn ((hI1.2.2 4 (by decide)).trans hv4) hk ((hI1.2.2 5 (by decide)).trans hv5) (mn := mn) (by rw [g11]; exact hmn) (wl := cW a mn k) (by show ∀ j, j < 384 → a1 19 j = _; rw [g19]; exact hV1)
    rw [jB 10 (by decide) (by decide), jB 12 (by decide) (by decide), jB 4 (by decide) (by decide), jB 7 (by decide) (by decide), jB 8 (by decide) (by decide), jA, e10, e12, e4, e7, e8, e6] at hH
    have hK := hJ.eqS (by decide) hs2
    have hv42 : v2 4 = nI n := (hK.2.2 4 (by decide)).trans hv4
    obtain ⟨o, ho⟩ : ∃ o, o = bcF (obF (crn (a 10) (a 12) mn k n (a 4) (a 7) (a 8) (upd (a 6) l (nI m)) (cW a mn k) (evB k)).1 n) := ⟨_, rfl⟩
    have hw := wg_v v2 o (nI m)
    refine ⟨(a2, if ¬ o ≤ v2 3 then upd (upd v2 3 o) 2 (nI m) else v2), ⟨⟨nI m, hK.upv hw.1⟩, ?_⟩, fun oo kk => ?_⟩
    · rw [lp_end, ← hI2, ho]
      rw [ho] at hw
      rw [hw.2, hq2, hq3, Nat.zero_add]
    · rw [nI_succ] at kk
      repeat refine Rn.step rfl ?_
      refine Rn.br2 rfl (nle hm (by decide)) ?_
      repeat refine Rn.step rfl ?_
      refine Rn.ast l rfl rfl (by omega) (by decide) (h3 := wX a1 s.2 t r) (by rw [hI1.1, upd_upd, ha1]; rfl) ?_
      repeat refine Rn.step rfl ?_
      refine Rn.calli rfl rfl rfl (by decide) r_bits (fun z1 f1 => ?_)
      rw [hI1.2.2 5 (by decide), eB] at f1
      subst f1
      refine Rn.callv rfl rfl rfl (by decide) hr2 ?_
      repeat refine Rn.step rfl ?_
      refine Rn.callv rfl rfl rfl (by decide) (r_weigh hn hv42 (nI m) hH) ?_
      iterate 2 refine Rn.step rfl ?_
      rw [← ho]
      exact kk
  obtain ⟨s', ⟨⟨c, hI1⟩, hI2⟩, hgo⟩ := Rn.lpx (E := E) (hh := 4) (M := mX7_searchSend) (σ := (Nat → Nat → Int32) × (Nat → Int32)) (cfg := fun m s => (16, [(3, .int (nI m)), (2, .int (a' 6 l)), (0, .ref 0), (1, .int (nI l))], [], wX s.1 s.2 t r)) (n := 24) (fun m s => (∃ c, SrI 6 a' v' (upd (a' 6) l c) s) ∧ (s.2 2, s.2 3) = lp (fun m x => bs x (nI m) (bcF (obF (crn (a 10) (a 12) mn k n (a 4) (a 7) (a 8) (upd (a 6) l (nI m)) (cW a mn k) (evB k)).1 n))) 0 m (-1, -1)) hstep 24 0 (a', v') rfl ⟨⟨a' 6 l, (upd_self _ _).symm, fun _ _ _ => rfl, fun _ _ => rfl⟩, by show (v' 2, v' 3) = (-1, -1); rw [hb2, hb3]⟩
  have hfin := (hI1.up (a' 6)).2.1
  refine ⟨va_up s'.1 6 (a' 6), s'.2, ?_, ?_, ?_, ?_, ?_⟩
  · repeat refine Rn.step rfl ?_
    refine Rn.callv rfl rfl rfl (by decide) hr ?_
    repeat refine Rn.step rfl ?_
    refine Rn.ald l rfl rfl (by omega) (by decide) ?_
    iterate 3 refine Rn.step rfl ?_
    refine hgo _ ?_
    repeat refine Rn.step rfl ?_
    refine Rn.ast l rfl rfl (by omega) (by decide) (h3 := wX (va_up s'.1 6 (a' 6)) s'.2 t r) (by rw [hI1.1, upd_back]; rfl) ?_
    exact Rn.ret rfl
  · refine ⟨fun j hj => ?_, fun j hj => ?_⟩
    · rw [← he.1 j hj]
      by_cases h6 : j = 6
      · subst h6; rfl
      · exact hfin j (by intro q; simp only [List.mem_cons, List.not_mem_nil, or_false] at hj q; omega) h6
    · rw [← he.2 j hj]
      exact hI1.2.2 j (by intro q; simp only [List.mem_cons, List.not_mem_nil, or_false] at hj q; omega)
  · rw [hI1.2.2 1 (by decide)]; exact h1
  · refine ValX_congr (fun j hj => ?_) hV
    by_cases h6 : j = 6
    · subst h6; rfl
    · exact hfin j (by intro q; simp only [List.mem_cons, List.not_mem_nil, or_false] at hj q; omega) h6
  · exact hI2
theorem r_searchSteep {n k q : Nat} {mn sm : Nat → Nat} (hW : WfX a v n k q mn sm) (hS : SetX a v mn k n) : ∃ (a' : Nat → Nat → Int32) (v' : Nat → Int32), Rn E 4 mX7_searchSteep (0, [(0, .ref 0)], [], wX a v t r) (none, wX a' v' t r) ∧ eqT a v a' v' ∧ v' 1 = 1 ∧ ValX a' mn k n ∧ (v' 2, v' 3) = spF (a 10) (a 12) mn k n (a 4) (a 7) (a 8) (a 6) (cW a mn k) := by
  obtain ⟨a', v', hr, he, h1, hV, hb2, hb3⟩ := r_startSearch (E := E) (t := t) (r := r) hW hS
  have hW' := hW.moved he
  obtain ⟨⟨hn, hv4⟩, ⟨hk, hv5, hmn⟩, -⟩ := id hW'
  have hV1 := hV.1
  rw [cW_eq he] at hV1
  have eB : sh1 (v' 5) - 1 = evB k := by rw [hv5]; rfl
  have e10 := he.1 10 (by decide)
  have e12 := he.1 12 (by decide)
  have e4 := he.1 4 (by decide)
  have e5 := he.1 5 (by decide)
  have e6 := he.1 6 (by decide)
  have e7 := he.1 7 (by decide)
  have e8 := he.1 8 (by decide)
  have hstep : ∀ (m : Nat) (s : (Nat → Nat → Int32) × (Nat → Int32)), m < 16 → (SrI 4 a' v' (a' 4) s ∧ (s.2 2, s.2 3) = lp (fun s x => bs x (nI s) (bcF (obF (crn (a 10) (a 12) mn k n (upd (a 4) s (if 3 < a 4 s + 1 then 3 else a 4 s + 1)) (a 7) (a 8) (a 6) (cW a mn k) (evB k)).1 n))) 0 m (-1, -1)) → ∃ s' : (Nat → Nat → Int32) × (Nat → Int32), (SrI 4 a' v' (a' 4) s' ∧ (s'.2 2, s'.2 3) = lp (fun s x => bs x (nI s) (bcF (obF (crn (a 10) (a 12) mn k n (upd (a 4) s (if 3 < a 4 s + 1 then 3 else a 4 s + 1)) (a 7) (a 8) (a 6) (cW a mn k) (evB k)).1 n))) 0 (m + 1) (-1, -1)) ∧ ∀ o, Rn E 4 mX7_searchSteep ((6, [(1, .int (nI (m + 1))), (0, .ref 0)], [], wX s'.1 s'.2 t r)) o → Rn E 4 mX7_searchSteep ((6, [(1, .int (nI m)), (0, .ref 0)], [], wX s.1 s.2 t r)) o := by
    intro m s hm hI
    obtain ⟨hI1, hI2⟩ := hI
    obtain ⟨NV, hNV⟩ : ∃ x : Int32, x = if 3 < a' 4 m + 1 then 3 else a' 4 m + 1 := ⟨_, rfl⟩
    have hJ := hI1.up (upd (a' 4) m NV)
    obtain ⟨a1, ha1⟩ : ∃ a1, a1 = va_up s.1 4 (upd (a' 4) m NV) := ⟨_, rfl⟩
    rw [← ha1] at hJ
    have jA : a1 4 = upd (a' 4) m NV := hJ.1
    have jB : ∀ k, k ∉ [28, 29, 30, 32, 33, 34, 35, 36] → k ≠ 4 → a1 k = a' k := hJ.2.1
    have g11 := jB 11 (by decide) (by decide)
    have g19 := jB 19 (by decide) (by decide)
    obtain ⟨a2, v2, hr2, hs2, hq2, hq3, hH⟩ := r_oRun (E := E) (a := a1) (v := s.2) (t := t) (r := r) (W := 18) (Or.inl rfl) (evB k) hn ((hI1.2.2 4 (by decide)).trans hv4) hk ((hI1.2.2 5 (by decide)).trans hv5) (mn := mn) (by rw [g11]; exact hmn) (wl := cW a mn k) (by show ∀ j, j < 384 → a1 19 j = _; rw [g19]; exact hV1)
    rw [jB 10 (by decide) (by decide), jB 12 (by decide) (by decide), jA, jB 7 (by decide) (by decide), jB 8 (by decide) (by decide), jB 6 (by decide) (by decide), e10, e12, e4, e7, e8, e6] at hH
    have hK0 := hJ.eqS (by decide) hs2
    have hK := hK0.up (a' 4)
    have hv42 : v2 4 = nI n := (hK.2.2 4 (by decide)).trans hv4
    rw [e4] at hNV
    obtain ⟨o, ho⟩ : ∃ o, o = bcF (obF (crn (a 10) (a 12) mn k n (upd (a 4) m NV) (a 7) (a 8) (a 6) (cW a mn k) (evB k)).1 n) := ⟨_, rfl⟩
    have hH' : HdS (va_up a2 4 (a' 4)) n (crn (a 10) (a 12) mn k n (upd (a 4) m NV) (a 7) (a 8) (a 6) (cW a mn k) (evB k)) := hH
    have hw := wg_v v2 o (nI m)
    refine ⟨(va_up a2 4 (a' 4), if ¬ o ≤ v2 3 then upd (upd v2 3 o) 2 (nI m) else v2), ⟨hK.upv hw.1, ?_⟩, fun oo kk => ?_⟩
    · rw [lp_end, ← hI2, ho, hNV]
      rw [ho, hNV] at hw
      rw [hw.2, hq2, hq3, Nat.zero_add]
    · rw [nI_succ] at kk
      repeat refine Rn.step rfl ?_
      refine Rn.br2 rfl (nle hm (by decide)) ?_
      repeat refine Rn.step rfl ?_
      refine Rn.ald m rfl rfl hm (by decide) ?_
      repeat refine Rn.step rfl ?_
      refine Rn.ast m rfl rfl hm (by decide) (h3 := wX a1 s.2 t r) (by rw [hI1.1, ha1, hNV, e4]; rfl) ?_
      repeat refine Rn.step rfl ?_
      refine Rn.calli rfl rfl rfl (by decide) r_bits (fun z1 f1 => ?_)
      rw [hI1.2.2 5 (by decide), eB] at f1
      subst f1
      refine Rn.callv rfl rfl rfl (by decide) hr2 ?_
      repeat refine Rn.step rfl ?_
      refine Rn.ast m rfl rfl hm (by decide) (h3 := wX (va_up a2 4 (a' 4)) v2 t r) (by rw [show a2 4 = upd (a' 4) m NV from hK0.1, hI1.1, upd_back]; rfl) ?_
      repeat refine Rn.step rfl ?_
      refine Rn.callv rfl rfl rfl (by decide) (r_weigh hn hv42 (nI m) hH') ?_
      iterate 2 refine Rn.step rfl ?_
      rw [← ho]
      exact Rn.sub (by exact ⟨rfl, rfl, trivial⟩) kk
  obtain ⟨s', ⟨hI1, hI2⟩, hgo⟩ := Rn.lpx (E := E) (hh := 4) (M := mX7_searchSteep) (σ := (Nat → Nat → Int32) × (Nat → Int32)) (cfg := fun m s => (6, [(1, .int (nI m)), (0, .ref 0)], [], wX s.1 s.2 t r)) (n := 16) (fun m s => SrI 4 a' v' (a' 4) s ∧ (s.2 2, s.2 3) = lp (fun s x => bs x (nI s) (bcF (obF (crn (a 10) (a 12) mn k n (upd (a 4) s (if 3 < a 4 s + 1 then 3 else a 4 s + 1)) (a 7) (a 8) (a 6) (cW a mn k) (evB k)).1 n))) 0 m (-1, -1)) hstep 16 0 (a', v') rfl ⟨⟨rfl, fun _ _ _ => rfl, fun _ _ => rfl⟩, by show (v' 2, v' 3) = (-1, -1); rw [hb2, hb3]⟩
  have hfin : ∀ j, j ∉ [28, 29, 30, 32, 33, 34, 35, 36] → s'.1 j = a' j := fun j hj => by
    by_cases h6 : j = 4
    · subst h6; exact hI1.1
    · exact hI1.2.1 j hj h6
  refine ⟨s'.1, s'.2, ?_, ?_, ?_, ?_, ?_⟩
  · repeat refine Rn.step rfl ?_
    refine Rn.callv rfl rfl rfl (by decide) hr ?_
    iterate 2 refine Rn.step rfl ?_
    refine hgo _ ?_
    repeat refine Rn.step rfl ?_
    exact Rn.ret rfl
  · refine ⟨fun j hj => ?_, fun j hj => ?_⟩
    · rw [← he.1 j hj]
      exact hfin j (by intro q; simp only [List.mem_cons, List.not_mem_nil, or_false] at hj q; omega)
    · rw [← he.2 j hj]
      exact hI1.2.2 j (by intro q; simp only [List.mem_cons, List.not_mem_nil, or_false] at hj q; omega)
  · rw [hI1.2.2 1 (by decide)]; exact h1
  · exact ValX_congr (fun j hj => hfin j (by intro q; simp only [List.mem_cons, List.not_mem_nil, or_false] at hj q; omega)) hV
  · exact hI2
theorem r_searchFill {n k q : Nat} {mn sm : Nat → Nat} (hW : WfX a v n k q mn sm) (hS : SetX a v mn k n) : ∃ (a' : Nat → Nat → Int32) (v' : Nat → Int32), Rn E 4 mX7_searchFill (0, [(0, .ref 0)], [], wX a v t r) (none, wX a' v' t r) ∧ eqT a v a' v' ∧ v' 1 = 1 ∧ ValX a' mn k n ∧ (v' 2, v' 3) = flF (a 10) (a 12) mn k n (a 4) (a 5) (a 7) (a 8) (a 6) := by
  obtain ⟨a', v', hr, he, h1, hV, hb2, hb3⟩ := r_startSearch (E := E) (t := t) (r := r) hW hS
  have hW' := hW.moved he
  obtain ⟨⟨hn, hv4⟩, ⟨hk, hv5, hmn⟩, -⟩ := id hW'
  have hV1 := hV.1
  rw [cW_eq he] at hV1
  have eB : sh1 (v' 5) - 1 = evB k := by rw [hv5]; rfl
  have e10 := he.1 10 (by decide)
  have e12 := he.1 12 (by decide)
  have e4 := he.1 4 (by decide)
  have e5 := he.1 5 (by decide)
  have e6 := he.1 6 (by decide)
  have e7 := he.1 7 (by decide)
  have e8 := he.1 8 (by decide)
  have hstep : ∀ (m : Nat) (s : (Nat → Nat → Int32) × (Nat → Int32)), m < 16 → (SrI 5 a' v' (a' 5) s ∧ (s.2 2, s.2 3) = lp (fun s x => bs x (nI s) (bcF (obF (crn (a 10) (a 12) mn k n (a 4) (a 7) (a 8) (a 6) (cwl (a 10) (a 12) mn k (upd (a 5) s (if 9 < a 5 s + 2 then 9 else a 5 s + 2)) (evB k)) (evB k)).1 n))) 0 m (-1, -1)) → ∃ s' : (Nat → Nat → Int32) × (Nat → Int32), (SrI 5 a' v' (a' 5) s' ∧ (s'.2 2, s'.2 3) = lp (fun s x => bs x (nI s) (bcF (obF (crn (a 10) (a 12) mn k n (a 4) (a 7) (a 8) (a 6) (cwl (a 10) (a 12) mn k (upd (a 5) s (if 9 < a 5 s + 2 then 9 else a 5 s + 2)) (evB k)) (evB k)).1 n))) 0 (m + 1) (-1, -1)) ∧ ∀ o, Rn E 4 mX7_searchFill ((6, [(1, .int (nI (m + 1))), (0, .ref 0)], [], wX s'.1 s'.2 t r)) o → Rn E 4 mX7_searchFill ((6, [(1, .int (nI m)), (0, .ref 0)], [], wX s.1 s.2 t r)) o := by
    intro m s hm hI
    obtain ⟨hI1, hI2⟩ := hI
    obtain ⟨NV, hNV⟩ : ∃ x : Int32, x = if 9 < a' 5 m + 2 then 9 else a' 5 m + 2 := ⟨_, rfl⟩
    have hJ := hI1.up (upd (a' 5) m NV)
    obtain ⟨a1, ha1⟩ : ∃ a1, a1 = va_up s.1 5 (upd (a' 5) m NV) := ⟨_, rfl⟩
    rw [← ha1] at hJ
    have jA : a1 5 = upd (a' 5) m NV := hJ.1
    have jB : ∀ k, k ∉ [28, 29, 30, 32, 33, 34, 35, 36] → k ≠ 5 → a1 k = a' k := hJ.2.1
    have g11 := jB 11 (by decide) (by decide)
    obtain ⟨a2, hr2, hs2, hw2⟩ := r_oPour (E := E) (a := a1) (v := s.2) (t := t) (r := r) (evB k) (F := 5) (Or.inl rfl) hk ((hI1.2.2 5 (by decide)).trans hv5) (mn := mn) (by rw [g11]; exact hmn)
    rw [jB 10 (by decide) (by decide), jB 12 (by decide) (by decide), jA, e10, e12, e5] at hw2
    have hK0 := hJ.eqS (by decide) hs2
    have hK1 := hK0.up (a' 5)
    obtain ⟨a3, ha3⟩ : ∃ a3, a3 = va_up a2 5 (a' 5) := ⟨_, rfl⟩
    rw [← ha3] at hK1
    have kB : ∀ k, k ∉ [28, 29, 30, 32, 33, 34, 35, 36] → k ≠ 5 → a3 k = a' k := hK1.2.1
    have k11 := kB 11 (by decide) (by decide)
    have hw3 : ∀ j, j < 384 → a3 28 j = cwl (a 10) (a 12) mn k (upd (a 5) m NV) (evB k) j := by subst ha3; exact hw2
    obtain ⟨a4, v2, hr4, hs4, hq2, hq3, hH⟩ := r_oRun (E := E) (a := a3) (v := s.2) (t := t) (r := r) (W := 27) (Or.inr rfl) (evB k) hn ((hI1.2.2 4 (by decide)).trans hv4) hk ((hI1.2.2 5 (by decide)).trans hv5) (mn := mn) (by rw [k11]; exact hmn) (wl := cwl (a 10) (a 12) mn k (upd (a 5) m NV) (evB k)) hw3
    rw [kB 10 (by decide) (by decide), kB 12 (by decide) (by decide), kB 4 (by decide) (by decide), kB 7 (by decide) (by decide), kB 8 (by decide) (by decide), kB 6 (by decide) (by decide), e10, e12, e4, e7, e8, e6] at hH
    have hK := hK1.eqS (by decide) hs4
    have hv42 : v2 4 = nI n := (hK.2.2 4 (by decide)).trans hv4
    rw [e5] at hNV
    obtain ⟨o, ho⟩ : ∃ o, o = bcF (obF (crn (a 10) (a 12) mn k n (a 4) (a 7) (a 8) (a 6) (cwl (a 10) (a 12) mn k (upd (a 5) m NV) (evB k)) (evB k)).1 n) := ⟨_, rfl⟩
    have hw := wg_v v2 o (nI m)
    refine ⟨(a4, if ¬ o ≤ v2 3 then upd (upd v2 3 o) 2 (nI m) else v2), ⟨hK.upv hw.1, ?_⟩, fun oo kk => ?_⟩
    · rw [lp_end, ← hI2, ho, hNV]
      rw [ho, hNV] at hw
      rw [hw.2, hq2, hq3, Nat.zero_add]
    · rw [nI_succ] at kk
      repeat refine Rn.step rfl ?_
      refine Rn.br2 rfl (nle hm (by decide)) ?_
      repeat refine Rn.step rfl ?_
      refine Rn.ald m rfl rfl hm (by decide) ?_
      repeat refine Rn.step rfl ?_
      refine Rn.ast m rfl rfl hm (by decide) (h3 := wX a1 s.2 t r) (by rw [hI1.1, ha1, hNV, e5]; rfl) ?_
      repeat refine Rn.step rfl ?_
      refine Rn.calli rfl rfl rfl (by decide) r_bits (fun z1 f1 => ?_)
      rw [hI1.2.2 5 (by decide), eB] at f1
      subst f1
      refine Rn.callv rfl rfl rfl (by decide) hr2 ?_
      repeat refine Rn.step rfl ?_
      refine Rn.ast m rfl rfl hm (by decide) (h3 := wX a3 s.2 t r) (by rw [show a2 5 = upd (a' 5) m NV from hK0.1, hI1.1, upd_back, ha3]; rfl) ?_
      repeat refine Rn.step rfl ?_
      refine Rn.calli rfl rfl rfl (by decide) r_bits (fun z1 f1 => ?_)
      rw [hI1.2.2 5 (by decide), eB] at f1
      subst f1
      refine Rn.callv rfl rfl rfl (by decide) hr4 ?_
      repeat refine Rn.step rfl ?_
      refine Rn.callv rfl rfl rfl (by decide) (r_weigh hn hv42 (nI m) hH) ?_
      iterate 2 refine Rn.step rfl ?_
      rw [← ho]
      exact Rn.sub (by exact ⟨rfl, rfl, trivial⟩) kk
  obtain ⟨s', ⟨hI1, hI2⟩, hgo⟩ := Rn.lpx (E := E) (hh := 4) (M := mX7_searchFill) (σ := (Nat → Nat → Int32) × (Nat → Int32)) (cfg := fun m s => (6, [(1, .int (nI m)), (0, .ref 0)], [], wX s.1 s.2 t r)) (n := 16) (fun m s => SrI 5 a' v' (a' 5) s ∧ (s.2 2, s.2 3) = lp (fun s x => bs x (nI s) (bcF (obF (crn (a 10) (a 12) mn k n (a 4) (a 7) (a 8) (a 6) (cwl (a 10) (a 12) mn k (upd (a 5) s (if 9 < a 5 s + 2 then 9 else a 5 s + 2)) (evB k)) (evB k)).1 n))) 0 m (-1, -1)) hstep 16 0 (a', v') rfl ⟨⟨rfl, fun _ _ _ => rfl, fun _ _ => rfl⟩, by show (v' 2, v' 3) = (-1, -1); rw [hb2, hb3]⟩
  have hfin : ∀ j, j ∉ [28, 29, 30, 32, 33, 34, 35, 36] → s'.1 j = a' j := fun j hj => by
    by_cases h6 : j = 5
    · subst h6; exact hI1.1
    · exact hI1.2.1 j hj h6
  refine ⟨s'.1, s'.2, ?_, ?_, ?_, ?_, ?_⟩
  · repeat refine Rn.step rfl ?_
    refine Rn.callv rfl rfl rfl (by decide) hr ?_
    iterate 2 refine Rn.step rfl ?_
    refine hgo _ ?_
    repeat refine Rn.step rfl ?_
    exact Rn.ret rfl
  · refine ⟨fun j hj => ?_, fun j hj => ?_⟩
    · rw [← he.1 j hj]
      exact hfin j (by intro q; simp only [List.mem_cons, List.not_mem_nil, or_false] at hj q; omega)
    · rw [← he.2 j hj]
      exact hI1.2.2 j (by intro q; simp only [List.mem_cons, List.not_mem_nil, or_false] at hj q; omega)
  · rw [hI1.2.2 1 (by decide)]; exact h1
  · exact ValX_congr (fun j hj => hfin j (by intro q; simp only [List.mem_cons, List.not_mem_nil, or_false] at hj q; omega)) hV
  · exact hI2
theorem r_send_bad (x y : Int32) (hb : ¬ (inB x (v 4) ∧ inB y 2)) : Rn E 5 mX7_send (0, [(0, .ref 0), (1, .int x), (2, .int y)], [], wX a v t r) ((some (.int (-2))), wX a v t r) := by
  repeat refine Rn.step rfl ?_
  refine Rn.calli rfl rfl rfl (by decide) (r_isLog x) (fun x0 e0 => ?_)
  refine Rn.br rfl (fun h0 => ?_) (fun h0 => ?_)
  · repeat refine Rn.step rfl ?_
    exact Rn.ret rfl
  repeat refine Rn.step rfl ?_
  refine Rn.calli rfl rfl rfl (by decide) (r_within y 2 _) (fun x1 e1 => ?_)
  refine Rn.br2 rfl (fun h1 => hb (⟨ib_ne0.mp (e0 ▸ h0), ib_ne0.mp (e1 ▸ h1)⟩)) ?_
  repeat refine Rn.step rfl ?_
  exact Rn.ret rfl
theorem r_send0 {n k q : Nat} {mn sm : Nat → Nat} (hW : WfX a v n k q mn sm) (hS : SetX a v mn k n) {l : Nat} (hl : l < n) : AX E 5 mX7_send [(0, .ref 0), (1, .int (nI l)), (2, .int 0)] a v t r mn k n (some (.int (sdF (a 10) (a 12) mn k n (a 4) (a 7) (a 8) (a 6) (cW a mn k) l).1)) := by
  obtain ⟨⟨hn, hv4⟩, -⟩ := id hW
  obtain ⟨a', v', hr, he, h1, hV, hb⟩ := r_searchSend (E := E) (t := t) (r := r) hW hS hl
  refine ⟨a', v', ?_, he, Or.inr ⟨h1, hV⟩⟩
  rw [← hb]
  repeat refine Rn.step rfl ?_
  refine Rn.calli rfl rfl rfl (by decide) (r_isLog (nI l)) (fun x0 e0 => ?_)
  refine Rn.br2 rfl (by rw [e0, ib_eq0]; exact fun q => q (by rw [hv4]; exact inB_nI hl (by omega))) ?_
  repeat refine Rn.step rfl ?_
  refine Rn.calli rfl rfl rfl (by decide) (r_within 0 2 _) (fun x1 e1 => ?_)
  refine Rn.br1 rfl (by rw [e1, ib_ne0]; exact by decide) ?_
  repeat refine Rn.step rfl ?_
  refine Rn.callv rfl rfl rfl (by decide) hr ?_
  repeat refine Rn.step rfl ?_
  exact Rn.ret rfl
theorem r_send1 {n k q : Nat} {mn sm : Nat → Nat} (hW : WfX a v n k q mn sm) (hS : SetX a v mn k n) {l : Nat} (hl : l < n) : AX E 5 mX7_send [(0, .ref 0), (1, .int (nI l)), (2, .int 1)] a v t r mn k n (some (.int (sdF (a 10) (a 12) mn k n (a 4) (a 7) (a 8) (a 6) (cW a mn k) l).2)) := by
  obtain ⟨⟨hn, hv4⟩, -⟩ := id hW
  obtain ⟨a', v', hr, he, h1, hV, hb⟩ := r_searchSend (E := E) (t := t) (r := r) hW hS hl
  refine ⟨a', v', ?_, he, Or.inr ⟨h1, hV⟩⟩
  rw [← hb]
  repeat refine Rn.step rfl ?_
  refine Rn.calli rfl rfl rfl (by decide) (r_isLog (nI l)) (fun x0 e0 => ?_)
  refine Rn.br2 rfl (by rw [e0, ib_eq0]; exact fun q => q (by rw [hv4]; exact inB_nI hl (by omega))) ?_
  repeat refine Rn.step rfl ?_
  refine Rn.calli rfl rfl rfl (by decide) (r_within 1 2 _) (fun x1 e1 => ?_)
  refine Rn.br1 rfl (by rw [e1, ib_ne0]; exact by decide) ?_
  repeat refine Rn.step rfl ?_
  refine Rn.callv rfl rfl rfl (by decide) hr ?_
  repeat refine Rn.step rfl ?_
  exact Rn.ret rfl
theorem r_steep_bad (x : Int32) (hb : ¬ (inB x 2)) : Rn E 5 mX7_steep (0, [(0, .ref 0), (1, .int x)], [], wX a v t r) ((some (.int (-2))), wX a v t r) := by
  repeat refine Rn.step rfl ?_
  refine Rn.calli rfl rfl rfl (by decide) (r_within x 2 _) (fun x0 e0 => ?_)
  refine Rn.br2 rfl (fun h0 => hb (ib_ne0.mp (e0 ▸ h0))) ?_
  repeat refine Rn.step rfl ?_
  exact Rn.ret rfl
theorem r_fill_bad (x : Int32) (hb : ¬ (inB x 2)) : Rn E 5 mX7_fill (0, [(0, .ref 0), (1, .int x)], [], wX a v t r) ((some (.int (-2))), wX a v t r) := by
  repeat refine Rn.step rfl ?_
  refine Rn.calli rfl rfl rfl (by decide) (r_within x 2 _) (fun x0 e0 => ?_)
  refine Rn.br2 rfl (fun h0 => hb (ib_ne0.mp (e0 ▸ h0))) ?_
  repeat refine Rn.step rfl ?_
  exact Rn.ret rfl
theorem r_steep0 {n k q : Nat} {mn sm : Nat → Nat} (hW : WfX a v n k q mn sm) (hS : SetX a v mn k n) : AX E 5 mX7_steep [(0, .ref 0), (1, .int 0)] a v t r mn k n (some (.int (spF (a 10) (a 12) mn k n (a 4) (a 7) (a 8) (a 6) (cW a mn k)).1)) := by
  obtain ⟨⟨hn, hv4⟩, -⟩ := id hW
  obtain ⟨a', v', hr, he, h1, hV, hb⟩ := r_searchSteep (E := E) (t := t) (r := r) hW hS
  refine ⟨a', v', ?_, he, Or.inr ⟨h1, hV⟩⟩
  rw [← hb]
  repeat refine Rn.step rfl ?_
  refine Rn.calli rfl rfl rfl (by decide) (r_within 0 2 _) (fun x0 e0 => ?_)
  refine Rn.br1 rfl (by rw [e0, ib_ne0]; exact by decide) ?_
  repeat refine Rn.step rfl ?_
  refine Rn.callv rfl rfl rfl (by decide) hr ?_
  repeat refine Rn.step rfl ?_
  exact Rn.ret rfl
theorem r_fill0 {n k q : Nat} {mn sm : Nat → Nat} (hW : WfX a v n k q mn sm) (hS : SetX a v mn k n) : AX E 5 mX7_fill [(0, .ref 0), (1, .int 0)] a v t r mn k n (some (.int (flF (a 10) (a 12) mn k n (a 4) (a 5) (a 7) (a 8) (a 6)).1)) := by
  obtain ⟨⟨hn, hv4⟩, -⟩ := id hW
  obtain ⟨a', v', hr, he, h1, hV, hb⟩ := r_searchFill (E := E) (t := t) (r := r) hW hS
  refine ⟨a', v', ?_, he, Or.inr ⟨h1, hV⟩⟩
  rw [← hb]
  repeat refine Rn.step rfl ?_
  refine Rn.calli rfl rfl rfl (by decide) (r_within 0 2 _) (fun x0 e0 => ?_)
  refine Rn.br1 rfl (by rw [e0, ib_ne0]; exact by decide) ?_
  repeat refine Rn.step rfl ?_
  refine Rn.callv rfl rfl rfl (by decide) hr ?_
  repeat refine Rn.step rfl ?_
  exact Rn.ret rfl
theorem r_steep1 {n k q : Nat} {mn sm : Nat → Nat} (hW : WfX a v n k q mn sm) (hS : SetX a v mn k n) : AX E 5 mX7_steep [(0, .ref 0), (1, .int 1)] a v t r mn k n (some (.int (spF (a 10) (a 12) mn k n (a 4) (a 7) (a 8) (a 6) (cW a mn k)).2)) := by
  obtain ⟨⟨hn, hv4⟩, -⟩ := id hW
  obtain ⟨a', v', hr, he, h1, hV, hb⟩ := r_searchSteep (E := E) (t := t) (r := r) hW hS
  refine ⟨a', v', ?_, he, Or.inr ⟨h1, hV⟩⟩
  rw [← hb]
  repeat refine Rn.step rfl ?_
  refine Rn.calli rfl rfl rfl (by decide) (r_within 1 2 _) (fun x0 e0 => ?_)
  refine Rn.br1 rfl (by rw [e0, ib_ne0]; exact by decide) ?_
  repeat refine Rn.step rfl ?_
  refine Rn.callv rfl rfl rfl (by decide) hr ?_
  repeat refine Rn.step rfl ?_
  exact Rn.ret rfl
theorem r_fill1 {n k q : Nat} {mn sm : Nat → Nat} (hW : WfX a v n k q mn sm) (hS : SetX a v mn k n) : AX E 5 mX7_fill [(0, .ref 0), (1, .int 1)] a v t r mn k n (some (.int (flF (a 10) (a 12) mn k n (a 4) (a 5) (a 7) (a 8) (a 6)).2)) := by
  obtain ⟨⟨hn, hv4⟩, -⟩ := id hW
  obtain ⟨a', v', hr, he, h1, hV, hb⟩ := r_searchFill (E := E) (t := t) (r := r) hW hS
  refine ⟨a', v', ?_, he, Or.inr ⟨h1, hV⟩⟩
  rw [← hb]
  repeat refine Rn.step rfl ?_
  refine Rn.calli rfl rfl rfl (by decide) (r_within 1 2 _) (fun x0 e0 => ?_)
  refine Rn.br1 rfl (by rw [e0, ib_ne0]; exact by decide) ?_
  repeat refine Rn.step rfl ?_
  refine Rn.callv rfl rfl rfl (by decide) hr ?_
  repeat refine Rn.step rfl ?_
  exact Rn.ret rfl
end XC
end
section
section XD
variable {E : iExtT} {a : Nat → Nat → Int32} {v : Nat → Int32} {t : Nat → Nat → Int64} {r : List va_E}
/-- as eqS, but that outcomes may be found -/
def eqO (a : Nat → Nat → Int32) (v : Nat → Int32) (a' : Nat → Nat → Int32) (v' : Nat → Int32) : Prop := (∀ k, k ∉ [28, 29, 30, 32, 33, 34, 35, 36, 37] → a' k = a k) ∧ ∀ k, k ∉ [2, 3, 9, 10] → v' k = v k
theorem eqO.rf : eqO a v a v := ⟨fun _ _ => rfl, fun _ _ => rfl⟩
theorem eqO.trans {a' a'' : Nat → Nat → Int32} {v' v'' : Nat → Int32} (h1 : eqO a v a' v') (h2 : eqO a' v' a'' v'') : eqO a v a'' v'' := ⟨fun k hk => (h2.1 k hk).trans (h1.1 k hk), fun k hk => (h2.2 k hk).trans (h1.2 k hk)⟩
theorem eqS.eqO {a' : Nat → Nat → Int32} {v' : Nat → Int32} (h : eqS a v a' v') : eqO a v a' v' := ⟨fun k hk => h.1 k (fun q => hk (by simp only [List.mem_cons, List.not_mem_nil, or_false] at q ⊢; omega)), h.2⟩
theorem eqO.eqT {a' : Nat → Nat → Int32} {v' : Nat → Int32} (h : eqO a v a' v') : eqT a v a' v' := by
  refine ⟨fun k hk => h.1 k ?_, fun k hk => h.2 k ?_⟩
  · intro q
    simp only [List.mem_cons, List.not_mem_nil, or_false] at hk q
    omega
  · intro q
    simp only [List.mem_cons, List.not_mem_nil, or_false] at hk q
    omega
theorem ocF_of {mn : Nat → Nat} {k n : Nat} {kda nu sl fe de ta st : Nat → Int32} {kp : Int32} {a4 : Nat → Nat → Int32} (hH : HdS a4 n (crn kda nu mn k n sl de ta st (cwl kda nu mn k fe kp) kp)) : obF (a4 32) n = ocF kda nu mn k n sl fe de ta st kp := obF_congr (fun l hl => (hH 23 l (by decide) hl).1)
theorem r_outcome {n k q : Nat} {mn sm : Nat → Nat} (hW : WfX a v n k q mn sm) (h1 : v 1 = 1) (hV : ValX a mn k n) {j : Nat} (hj : j < 256) : ∃ (a' : Nat → Nat → Int32) (v' : Nat → Int32), Rn E 2 mX7_outcome (0, [(0, .ref 0), (1, .int (nI j))], [], wX a v t r) (some (.int (oC a mn k n (nI j))), wX a' v' t r) ∧ eqO a v a' v' ∧ ValX a' mn k n := by
  obtain ⟨⟨hn, hv4⟩, ⟨hk, hv5, hmn⟩, -⟩ := id hW
  by_cases hu : a 37 j = -1
  · obtain ⟨a2, hr2, hs2, hw2⟩ := r_oPour (E := E) (a := a) (v := v) (t := t) (r := r) (nI j) (F := 5) (Or.inl rfl) hk hv5 hmn
    obtain ⟨a4, v4, hr4, hs4, -, -, hH⟩ := r_oRun (E := E) (a := a2) (v := v) (t := t) (r := r) (W := 27) (Or.inr rfl) (nI j) hn hv4 hk hv5 (mn := mn) (by rw [hs2.1 11 (by decide)]; exact hmn) (wl := cwl (a 10) (a 12) mn k (a 5) (nI j)) hw2
    rw [hs2.1 10 (by decide), hs2.1 12 (by decide), hs2.1 4 (by decide), hs2.1 7 (by decide), hs2.1 8 (by decide), hs2.1 6 (by decide)] at hH
    have hO := ocF_of hH
    have hs := hs2.trans hs4
    have hv44 : v4 4 = nI n := (hs.2 4 (by decide)).trans hv4
    have e37 : a4 37 = a 37 := hs.1 37 (by decide)
    obtain ⟨a5, ha5⟩ : ∃ a5, a5 = va_up a4 37 (upd (a 37) j (oC a mn k n (nI j))) := ⟨_, rfl⟩
    have hB : ∀ i, i ∉ [28, 29, 30, 32, 33, 34, 35, 36, 37] → a5 i = a i := fun i hi => by
      have hne : i ≠ 37 := fun q => hi (by rw [q]; decide)
      rw [ha5]
      show (if i = 37 then _ else a4 i) = a i
      rw [if_neg hne]
      exact hs.eqO.1 i hi
    have hq : eqO a v a5 v4 := ⟨hB, hs.2⟩
    have e5 : a5 37 = upd (a 37) j (oC a mn k n (nI j)) := by rw [ha5]; rfl
    refine ⟨a5, v4, ?_, hq, ?_⟩
    · repeat refine Rn.step rfl ?_
      refine Rn.calli rfl rfl rfl (by decide) (r_within (nI j) (nI 256) _) (fun z1 f1 => ?_)
      refine Rn.br1 rfl (by rw [f1, ib_ne0]; exact inB_nI hj (by decide)) ?_
      repeat refine Rn.step rfl ?_
      refine Rn.ald j rfl rfl hj (by decide) ?_
      repeat refine Rn.step rfl ?_
      refine Rn.br2 rfl (fun q => q hu) ?_
      repeat refine Rn.step rfl ?_
      refine Rn.callv rfl rfl rfl (by decide) hr2 ?_
      repeat refine Rn.step rfl ?_
      refine Rn.callv rfl rfl rfl (by decide) hr4 ?_
      repeat refine Rn.step rfl ?_
      refine Rn.calli rfl rfl rfl (by decide) (r_outBits2 hn hv44) (fun z2 f2 => ?_)
      rw [hO] at f2
      subst f2
      refine Rn.ast j rfl rfl hj (by decide) (h3 := wX a5 v4 t r) (by rw [e37, ha5]; rfl) ?_
      repeat refine Rn.step rfl ?_
      refine Rn.ald j rfl rfl hj (by decide) ?_
      refine Rn.top (x' := oC a mn k n (nI j)) (by rw [e5]; exact pk_us) ?_
      exact Rn.ret rfl
    · refine ValX_mk hq.eqT (fun i hi => ?_) (fun i l hi hl => ?_) (fun i hi => ?_)
      · rw [hB 19 (by decide)]; exact hV.1 i hi
      · rw [hB 23 (by decide), hB 24 (by decide)]; exact hV.2.1 i l hi hl
      · rw [e5]
        by_cases hx : i = j
        · subst hx; exact Or.inr pk_us
        · rw [pk_un hx]; exact hV.2.2 i hi
  · refine ⟨a, v, ?_, eqO.rf, hV⟩
    have e := (hV.2.2 j hj).resolve_left hu
    repeat refine Rn.step rfl ?_
    refine Rn.calli rfl rfl rfl (by decide) (r_within (nI j) (nI 256) _) (fun z1 f1 => ?_)
    refine Rn.br1 rfl (by rw [f1, ib_ne0]; exact inB_nI hj (by decide)) ?_
    repeat refine Rn.step rfl ?_
    refine Rn.ald j rfl rfl hj (by decide) ?_
    repeat refine Rn.step rfl ?_
    refine Rn.br1 rfl hu ?_
    repeat refine Rn.step rfl ?_
    refine Rn.ald j rfl rfl hj (by decide) ?_
    refine Rn.top e ?_
    exact Rn.ret rfl
theorem evB_nI : ∀ k, k < 9 → evB k = nI (2 ^ k - 1) := by decide
theorem ev1_nI : ∀ k, k < 9 → ∀ x, x < k → evB k &&& (sh1 (nI x) ^^^ -1) = nI (2 ^ k - 1 - 2 ^ x) := by decide
theorem ev2_nI : ∀ k, k < 9 → ∀ x, x < k → ∀ y, y < k → x < y → evB k &&& ((sh1 (nI x) ||| sh1 (nI y)) ^^^ -1) = nI (2 ^ k - 1 - 2 ^ x - 2 ^ y) := by decide
theorem ev_lt : ∀ k, k < 9 → 2 ^ k - 1 < 256 := by decide
/-- SPARE's search: the events that had better not be, as bits, or -1 -/
def sp1 (oc : Int32 → Int32) (k : Nat) (w : Int32) : Nat → Nat → Option Int32
  | _, 0 => none
  | i, j + 1 => if oc (evB k &&& (sh1 (nI i) ^^^ -1)) = w then some (sh1 (nI i)) else sp1 oc k w (i + 1) j
def sp2 (oc : Int32 → Int32) (k : Nat) (w : Int32) (x : Nat) : Nat → Nat → Option Int32
  | _, 0 => none
  | i, j + 1 => if oc (evB k &&& ((sh1 (nI x) ||| sh1 (nI i)) ^^^ -1)) = w then some (sh1 (nI x) ||| sh1 (nI i)) else sp2 oc k w x (i + 1) j
def sp3 (oc : Int32 → Int32) (k : Nat) (w : Int32) : Nat → Nat → Option Int32
  | _, 0 => none
  | i, j + 1 => match sp2 oc k w i (i + 1) (k - (i + 1)) with
    | some b => some b
    | none => sp3 oc k w (i + 1) j
def spE (oc : Int32 → Int32) (k : Nat) (w : Int32) : Int32 := if oc (evB k) = w then 0 else match sp1 oc k w 0 k with
  | some b => b
  | none => match sp3 oc k w 0 k with
    | some b => b
    | none => -1
/-- what a method may have found out on its way: the answers stay, outcomes are so -/
def StX (a : Nat → Nat → Int32) (v : Nat → Int32) (mn : Nat → Nat) (k n : Nat) (s : (Nat → Nat → Int32) × (Nat → Int32)) : Prop := eqO a v s.1 s.2 ∧ ValX s.1 mn k n
end XD
end
section
section XE
variable {E : iExtT} {a : Nat → Nat → Int32} {v : Nat → Int32} {t : Nat → Nat → Int64} {r : List va_E}
/-- outcome at a state on the way -/
theorem r_oc {n k q : Nat} {mn sm : Nat → Nat} (hW : WfX a v n k q mn sm) (h1 : v 1 = 1) {s : (Nat → Nat → Int32) × (Nat → Int32)} (hs : StX a v mn k n s) {x : Int32} {j : Nat} (hx : x = nI j) (hj : j < 256) : ∃ s' : (Nat → Nat → Int32) × (Nat → Int32), Rn E 2 mX7_outcome (0, [(0, .ref 0), (1, .int x)], [], wX s.1 s.2 t r) (some (.int (oC a mn k n x)), wX s'.1 s'.2 t r) ∧ StX a v mn k n s' := by
  subst hx
  obtain ⟨a', v', hr, he, hV⟩ := r_outcome (E := E) (t := t) (r := r) (hW.moved hs.1.eqT) ((hs.1.2 1 (by decide)).trans h1) hs.2 hj
  rw [oC_eq hs.1.eqT] at hr
  exact ⟨(a', v'), hr, hs.1.trans he, hV⟩
theorem r_spared {n k q : Nat} {mn sm : Nat → Nat} (hW : WfX a v n k q mn sm) (hS : SetX a v mn k n) : ∃ (a' : Nat → Nat → Int32) (v' : Nat → Int32), Rn E 3 mX7_sparedEvents (0, [(0, .ref 0)], [], wX a v t r) (some (.int (spE (oC a mn k n) k (evB n))), wX a' v' t r) ∧ eqT a v a' v' ∧ v' 1 = 1 ∧ ValX a' mn k n := by
  obtain ⟨a0, v0, hr0, he0, h1, hV0⟩ := r_settle (E := E) (t := t) (r := r) hW hS
  have hW0 := hW.moved he0
  obtain ⟨⟨hn, hv4⟩, ⟨hk, hv5, hmn⟩, -⟩ := id hW0
  rw [← oC_eq he0]
  have eB : sh1 (v0 5) - 1 = evB k := by rw [hv5]; rfl
  have eN : sh1 (v0 4) - 1 = evB n := by rw [hv4]; rfl
  suffices hgo : ∃ s' : (Nat → Nat → Int32) × (Nat → Int32), StX a0 v0 mn k n s' ∧ Rn E 3 mX7_sparedEvents (20, [(2, .int (evB n)), (1, .int (evB k)), (0, .ref 0)], [], wX a0 v0 t r) (some (.int (spE (oC a0 mn k n) k (evB n))), wX s'.1 s'.2 t r) by
    obtain ⟨s', hs', hg⟩ := hgo
    refine ⟨s'.1, s'.2, ?_, he0.trans hs'.1.eqT, (hs'.1.2 1 (by decide)).trans h1, hs'.2⟩
    repeat refine Rn.step rfl ?_
    refine Rn.callv rfl rfl rfl (by decide) hr0 ?_
    repeat refine Rn.step rfl ?_
    refine Rn.calli rfl rfl rfl (by decide) r_bits (fun z1 f1 => ?_)
    rw [eB] at f1
    subst f1
    repeat refine Rn.step rfl ?_
    refine Rn.calli rfl rfl rfl (by decide) r_logBits (fun z2 f2 => ?_)
    rw [eN] at f2
    subst f2
    refine Rn.step rfl ?_
    exact hg
  have p3 : ∀ (j i : Nat) (s : (Nat → Nat → Int32) × (Nat → Int32)), i + j = k → StX a0 v0 mn k n s → ∃ s', StX a0 v0 mn k n s' ∧ Rn E 3 mX7_sparedEvents (71, [(3, .int (nI i)), (2, .int (evB n)), (1, .int (evB k)), (0, .ref 0)], [], wX s.1 s.2 t r) (some (.int ((sp3 (oC a0 mn k n) k (evB n) i j).getD (-1))), wX s'.1 s'.2 t r) := by
    intro j
    induction j with
    | zero =>
      intro i s hi hs
      refine ⟨s, hs, ?_⟩
      repeat refine Rn.step rfl ?_
      refine Rn.br1 rfl (by rw [hs.1.2 5 (by decide), hv5]; exact nI_le (by omega) (by omega)) ?_
      repeat refine Rn.step rfl ?_
      exact Rn.ret rfl
    | succ j ih =>
      intro i s hi hs
      have p2 : ∀ (c y : Nat) (s : (Nat → Nat → Int32) × (Nat → Int32)), y + c = k → i < y → StX a0 v0 mn k n s → ∃ s', StX a0 v0 mn k n s' ∧ Rn E 3 mX7_sparedEvents (87, [(4, .int (nI y)), (3, .int (nI i)), (2, .int (evB n)), (1, .int (evB k)), (0, .ref 0)], [], wX s.1 s.2 t r) (some (.int ((match sp2 (oC a0 mn k n) k (evB n) i y c with
          | some b => some b
          | none => sp3 (oC a0 mn k n) k (evB n) (i + 1) j : Option Int32).getD (-1))), wX s'.1 s'.2 t r) := by
        intro c
        induction c with
        | zero =>
          intro y s hy hiy hs
          obtain ⟨s', hs', hg⟩ := ih (i + 1) s (by omega) hs
          rw [nI_succ] at hg
          refine ⟨s', hs', ?_⟩
          repeat refine Rn.step rfl ?_
          refine Rn.br1 rfl (by rw [hs.1.2 5 (by decide), hv5]; exact nI_le (by omega) (by omega)) ?_
          iterate 2 refine Rn.step rfl ?_
          exact Rn.sub (by exact ⟨rfl, rfl, rfl, rfl, trivial⟩) hg
        | succ c ih2 =>
          intro y s hy hiy hs
          obtain ⟨s1, hr1, hs1⟩ := r_oc (E := E) (t := t) (r := r) hW0 h1 hs (ev2_nI k (by omega) i (by omega) y (by omega) hiy) (Nat.lt_of_le_of_lt (Nat.le_trans (Nat.sub_le _ _) (Nat.sub_le _ _)) (ev_lt k (by omega)))
          unfold sp2
          by_cases hc : oC a0 mn k n (evB k &&& ((sh1 (nI i) ||| sh1 (nI y)) ^^^ -1)) = evB n
          · rw [if_pos hc]
            refine ⟨s1, hs1, ?_⟩
            repeat refine Rn.step rfl ?_
            refine Rn.br2 rfl (by rw [hs.1.2 5 (by decide), hv5]; exact nle (by omega) (by omega)) ?_
            repeat refine Rn.step rfl ?_
            refine Rn.calli rfl rfl rfl (by decide) hr1 (fun z1 f1 => ?_)
            repeat refine Rn.step rfl ?_
            refine Rn.br2 rfl (fun q => q (f1.trans hc)) ?_
            repeat refine Rn.step rfl ?_
            exact Rn.ret rfl
          · rw [if_neg hc]
            obtain ⟨s', hs', hg⟩ := ih2 (y + 1) s1 (by omega) (by omega) hs1
            rw [nI_succ] at hg
            refine ⟨s', hs', ?_⟩
            repeat refine Rn.step rfl ?_
            refine Rn.br2 rfl (by rw [hs.1.2 5 (by decide), hv5]; exact nle (by omega) (by omega)) ?_
            repeat refine Rn.step rfl ?_
            refine Rn.calli rfl rfl rfl (by decide) hr1 (fun z1 f1 => ?_)
            repeat refine Rn.step rfl ?_
            refine Rn.br1 rfl (fun q => hc (f1.symm.trans q)) ?_
            iterate 2 refine Rn.step rfl ?_
            exact Rn.sub (by exact ⟨rfl, rfl, rfl, rfl, rfl, trivial⟩) hg
      obtain ⟨s', hs', hg⟩ := p2 (k - (i + 1)) (i + 1) s (by omega) (by omega) hs
      refine ⟨s', hs', ?_⟩
      repeat refine Rn.step rfl ?_
      refine Rn.br2 rfl (by rw [hs.1.2 5 (by decide), hv5]; exact nle (by omega) (by omega)) ?_
      iterate 3 refine Rn.step rfl ?_
      refine Rn.top (nI_1 i) ?_
      refine Rn.step rfl ?_
      exact hg
  have p1 : ∀ (j i : Nat) (s : (Nat → Nat → Int32) × (Nat → Int32)), i + j = k → StX a0 v0 mn k n s → ∃ s', StX a0 v0 mn k n s' ∧ Rn E 3 mX7_sparedEvents (33, [(3, .int (nI i)), (2, .int (evB n)), (1, .int (evB k)), (0, .ref 0)], [], wX s.1 s.2 t r) (some (.int ((match sp1 (oC a0 mn k n) k (evB n) i j with
      | some b => some b
      | none => sp3 (oC a0 mn k n) k (evB n) 0 k : Option Int32).getD (-1))), wX s'.1 s'.2 t r) := by
    intro j
    induction j with
    | zero =>
      intro i s hi hs
      obtain ⟨s', hs', hg⟩ := p3 k 0 s (by omega) hs
      refine ⟨s', hs', ?_⟩
      repeat refine Rn.step rfl ?_
      refine Rn.br1 rfl (by rw [hs.1.2 5 (by decide), hv5]; exact nI_le (by omega) (by omega)) ?_
      iterate 2 refine Rn.step rfl ?_
      exact hg
    | succ j ih =>
      intro i s hi hs
      obtain ⟨s1, hr1, hs1⟩ := r_oc (E := E) (t := t) (r := r) hW0 h1 hs (ev1_nI k (by omega) i (by omega)) (Nat.lt_of_le_of_lt (Nat.sub_le _ _) (ev_lt k (by omega)))
      unfold sp1
      by_cases hc : oC a0 mn k n (evB k &&& (sh1 (nI i) ^^^ -1)) = evB n
      · rw [if_pos hc]
        refine ⟨s1, hs1, ?_⟩
        repeat refine Rn.step rfl ?_
        refine Rn.br2 rfl (by rw [hs.1.2 5 (by decide), hv5]; exact nle (by omega) (by omega)) ?_
        repeat refine Rn.step rfl ?_
        refine Rn.calli rfl rfl rfl (by decide) hr1 (fun z1 f1 => ?_)
        repeat refine Rn.step rfl ?_
        refine Rn.br2 rfl (fun q => q (f1.trans hc)) ?_
        repeat refine Rn.step rfl ?_
        exact Rn.ret rfl
      · rw [if_neg hc]
        obtain ⟨s', hs', hg⟩ := ih (i + 1) s1 (by omega) hs1
        rw [nI_succ] at hg
        refine ⟨s', hs', ?_⟩
        repeat refine Rn.step rfl ?_
        refine Rn.br2 rfl (by rw [hs.1.2 5 (by decide), hv5]; exact nle (by omega) (by omega)) ?_
        repeat refine Rn.step rfl ?_
        refine Rn.calli rfl rfl rfl (by decide) hr1 (fun z1 f1 => ?_)
        repeat refine Rn.step rfl ?_
        refine Rn.br1 rfl (fun q => hc (f1.symm.trans q)) ?_
        iterate 2 refine Rn.step rfl ?_
        exact hg
  obtain ⟨s1, hr1, hs1⟩ := r_oc (E := E) (t := t) (r := r) hW0 h1 (s := (a0, v0)) ⟨eqO.rf, hV0⟩ (evB_nI k (by omega)) (ev_lt k (by omega))
  unfold spE
  by_cases hc : oC a0 mn k n (evB k) = evB n
  · rw [if_pos hc]
    refine ⟨s1, hs1, ?_⟩
    repeat refine Rn.step rfl ?_
    refine Rn.calli rfl rfl rfl (by decide) hr1 (fun z1 f1 => ?_)
    refine Rn.step rfl ?_
    refine Rn.br2 rfl (fun q => q (f1.trans hc)) ?_
    refine Rn.step rfl ?_
    exact Rn.ret rfl
  · rw [if_neg hc]
    obtain ⟨s', hs', hg⟩ := p1 k 0 s1 (by omega) hs1
    refine ⟨s', hs', ?_⟩
    repeat refine Rn.step rfl ?_
    refine Rn.calli rfl rfl rfl (by decide) hr1 (fun z1 f1 => ?_)
    refine Rn.step rfl ?_
    refine Rn.br1 rfl (fun q => hc (f1.symm.trans q)) ?_
    iterate 2 refine Rn.step rfl ?_
    cases h4 : sp1 (oC a0 mn k n) k (evB n) 0 k with
    | some b => rw [h4] at hg; exact hg
    | none =>
      rw [h4] at hg
      cases h5 : sp3 (oC a0 mn k n) k (evB n) 0 k with
      | some b => rw [h5] at hg; exact hg
      | none => rw [h5] at hg; exact hg
/-- the place of the i-th bit that is set -/
def baF (b i : Int32) : Nat → Nat → Int32 → Int32
  | 0, _, _ => -1
  | j + 1, p, c => if bt b p then (if c = i then nI p else baF b i j (p + 1) (c + 1)) else baF b i j (p + 1) c
theorem r_bitAt (b i : Int32) (h : List va_E) : Rn E 0 mX7_bitAt (0, [(0, .int b), (1, .int i)], [], h) (some (.int (baF b i 31 0 0)), h) := by
  have key : ∀ (j p : Nat) (c : Int32), p + j = 31 → Rn E 0 mX7_bitAt (4, [(3, .int (nI p)), (2, .int c), (0, .int b), (1, .int i)], [], h) (some (.int (baF b i j p c)), h) := by
    intro j
    induction j with
    | zero =>
      intro p c hp
      obtain rfl : p = 31 := by omega
      repeat refine Rn.step rfl ?_
      exact Rn.ret rfl
    | succ j ih =>
      intro p c hp
      repeat refine Rn.step rfl ?_
      refine Rn.br2 rfl (nle (n := 31) (by omega) (by decide)) ?_
      repeat refine Rn.step rfl ?_
      unfold baF
      refine Rn.br rfl (fun h1 => ?_) (fun h1 => ?_)
      · rw [if_neg h1]
        iterate 2 refine Rn.step rfl ?_
        have k3 := ih (p + 1) c (by omega)
        rw [nI_succ] at k3
        exact k3
      · rw [if_pos (Decidable.not_not.mp h1)]
        repeat refine Rn.step rfl ?_
        refine Rn.br rfl (fun h2 => ?_) (fun h2 => ?_)
        · rw [if_neg h2]
          iterate 3 refine Rn.step rfl ?_
          have k3 := ih (p + 1) (c + 1) (by omega)
          rw [nI_succ] at k3
          exact k3
        · rw [if_pos (Decidable.not_not.mp h2)]
          repeat refine Rn.step rfl ?_
          exact Rn.ret rfl
  iterate 4 refine Rn.step rfl ?_
  exact key 31 0 0 rfl
theorem r_spare_bad (x : Int32) (hb : x < -1 ∨ 1 < x) : Rn E 4 mX7_spare (0, [(0, .ref 0), (1, .int x)], [], wX a v t r) (some (.int (-2)), wX a v t r) := by
  repeat refine Rn.step rfl ?_
  refine Rn.br rfl (fun h1 => ?_) (fun h1 => ?_)
  · repeat refine Rn.step rfl ?_
    exact Rn.ret rfl
  · repeat refine Rn.step rfl ?_
    refine Rn.br2 rfl (Int32.not_le.mpr (hb.resolve_left h1)) ?_
    repeat refine Rn.step rfl ?_
    exact Rn.ret rfl
def sqF (b x : Int32) : Int32 := if b = -1 then -1 else if x = -1 then bcF b else baF b x 31 0 0
theorem r_spare {n k q : Nat} {mn sm : Nat → Nat} (hW : WfX a v n k q mn sm) (hS : SetX a v mn k n) (x : Int32) (hb : ¬ (x < -1 ∨ 1 < x)) : AX E 4 mX7_spare [(0, .ref 0), (1, .int x)] a v t r mn k n (some (.int (sqF (spE (oC a mn k n) k (evB n)) x))) := by
  obtain ⟨a', v', hr, he, h1, hV⟩ := r_spared (E := E) (t := t) (r := r) hW hS
  refine ⟨a', v', ?_, he, Or.inr ⟨h1, hV⟩⟩
  repeat refine Rn.step rfl ?_
  refine Rn.br2 rfl (fun q => hb (Or.inl q)) ?_
  repeat refine Rn.step rfl ?_
  refine Rn.br1 rfl (Int32.not_lt.mp (fun q => hb (Or.inr q))) ?_
  repeat refine Rn.step rfl ?_
  refine Rn.calli rfl rfl rfl (by decide) hr (fun z1 f1 => ?_)
  repeat refine Rn.step rfl ?_
  rw [← f1]
  unfold sqF
  refine Rn.br rfl (fun h2 => ?_) (fun h2 => ?_)
  · rw [if_neg h2]
    repeat refine Rn.step rfl ?_
    refine Rn.br rfl (fun h3 => ?_) (fun h3 => ?_)
    · rw [if_neg h3]
      repeat refine Rn.step rfl ?_
      refine Rn.calli rfl rfl rfl (by decide) (r_bitAt z1 x _) (fun z2 f2 => ?_)
      rw [← f2]
      exact Rn.ret rfl
    · rw [if_pos (Decidable.not_not.mp h3)]
      repeat refine Rn.step rfl ?_
      refine Rn.calli rfl rfl rfl (by decide) (r_bitCount z1 _) (fun z2 f2 => ?_)
      refine Rn.step rfl ?_
      rw [← f2]
      exact Rn.ret rfl
  · rw [if_pos (Decidable.not_not.mp h2)]
    repeat refine Rn.step rfl ?_
    exact Rn.ret rfl
end XE
end
section
section XF
variable {E : iExtT} {a : Nat → Nat → Int32} {v : Nat → Int32} {t : Nat → Nat → Int64} {r : List va_E}
theorem ftB_congr {H H' ta : Nat → Int32} {n k : Nat} {sm : Nat → Nat} {ss sl : Nat → Int32} (hsm : ∀ i, i < k → sm i < 24) (h : ∀ i l, i < 24 → l < n → H (i * 8 + l) = H' (i * 8 + l)) : ∀ j i, i + j ≤ k → ftB H ta n sm ss sl i j = ftB H' ta n sm ss sl i j := by
  intro j
  induction j with
  | zero => intro i _; rfl
  | succ j ih =>
    intro i hi
    unfold ftB
    rw [liF_congr (fun l hl => h (sm i) l (hsm i (by omega)) hl) n 0 (by omega), ih (i + 1) (by omega)]
theorem trF_congr {f g : Nat → Int32} {m n : Nat} (h : ∀ l, l < n → f (m * 8 + l) = g (m * 8 + l)) : trF f n m = trF g n m := lp_congr (fun s x _ hs => by rw [h s (by omega)])
/-- what was seen fits a drive -/
abbrev ftX (a : Nat → Nat → Int32) (n q : Nat) (sm : Nat → Nat) (x : dS) : Bool := ftB x.1 (a 8) n sm (a 15) (a 16) 0 q
theorem r_fitX {a0 : Nat → Nat → Int32} {v0 : Nat → Int32} {n k q : Nat} {mn sm : Nat → Nat} (hW : WfX a0 v0 n k q mn sm) (e8 : a 8 = a0 8) (e14 : a 14 = a0 14) (e15 : a 15 = a0 15) (e16 : a 16 = a0 16) (e4 : v 4 = v0 4) (e6 : v 6 = v0 6) {x : dS} (hH : HdS a n x) : Rn E 1 mX3_fit (0, [(0, .ref 13), (1, .ref 3), (2, .ref 31)], [], wX a v t r) (some (.int (ib (ftX a0 n q sm x = true))), wX a v t r) := by
  obtain ⟨⟨hn, hv4⟩, -, hq, hv6, hsm⟩ := id hW
  have h := r_fit (E := E) (a := a) (v := v) (t := t) (r := r) hn (e4.trans hv4) hq (e6.trans hv6) (sm := sm) (by rw [e14]; exact hsm)
  rw [ftB_congr (fun i hi => (hsm i hi).2) (fun i l hi hl => (hH i l hi hl).1) q 0 (by omega), e8, e15, e16] at h
  exact h
/-- never -/
def neF (a : Nat → Nat → Int32) (n k q : Nat) (mn sm : Nat → Nat) : Int32 := lp (fun e b => if ftX a n q sm (crn (a 10) (a 12) mn k n (a 4) (a 7) (a 8) (a 6) (cwl (a 10) (a 12) mn k (a 5) (evB k &&& (sh1 (nI e) ^^^ -1))) (evB k &&& (sh1 (nI e) ^^^ -1))) = true then b ||| sh1 (nI e) else b) 0 k 0
def grF (a : Nat → Nat → Int32) (n k q : Nat) (mn sm : Nat → Nat) (s : Nat) : Int32 := lp (fun i b => if ftX a n q sm (crn (a 10) (a 12) mn k n (upd (a 4) s (nI (i + 1))) (a 7) (a 8) (a 6) (cW a mn k) (evB k)) = true then b ||| sh1 (nI (i + 1)) else b) 0 3 0
abbrev dgX (a : Nat → Nat → Int32) (n k : Nat) (mn : Nat → Nat) (l d : Nat) : dS := crn (a 10) (a 12) mn k n (a 4) (upd (a 7) l (nI d)) (a 8) (a 6) (cW a mn k) (evB k)
def dgB (a : Nat → Nat → Int32) (n k q : Nat) (mn sm : Nat → Nat) (l : Nat) (m : Nat) : Int32 := lp (fun i b => if ftX a n q sm (dgX a n k mn l (i + 1)) = true then b ||| sh1 (nI (i + 1)) else b) 0 m 0
theorem SetX_congr {a' : Nat → Nat → Int32} {v' : Nat → Int32} {mn : Nat → Nat} {k n : Nat} (h : ∀ j ∈ [4, 5, 6, 7, 8, 10, 12, 19, 23, 24, 37], a' j = a j) (hv : v' 1 = v 1) (hS : SetX a v mn k n) : SetX a' v' mn k n := by
  rcases hS with h0 | ⟨h1, hV⟩
  · exact Or.inl (hv.trans h0)
  · exact Or.inr ⟨hv.trans h1, ValX_congr h hV⟩
theorem r_never {n k q : Nat} {mn sm : Nat → Nat} (hW : WfX a v n k q mn sm) (hS : SetX a v mn k n) : AX E 2 mX7_never [(0, .ref 0)] a v t r mn k n (some (.int (neF a n k q mn sm))) := by
  obtain ⟨⟨hn, hv4⟩, ⟨hk, hv5, hmn⟩, -⟩ := id hW
  have eB : sh1 (v 5) - 1 = evB k := by rw [hv5]; rfl
  have hstep : ∀ (m : Nat) (s : ((Nat → Nat → Int32) × (Nat → Int32)) × Int32), m < k → (eqS a v s.1.1 s.1.2 ∧ s.2 = lp (fun e b => if ftX a n q sm (crn (a 10) (a 12) mn k n (a 4) (a 7) (a 8) (a 6) (cwl (a 10) (a 12) mn k (a 5) (evB k &&& (sh1 (nI e) ^^^ -1))) (evB k &&& (sh1 (nI e) ^^^ -1))) = true then b ||| sh1 (nI e) else b) 0 m 0) → ∃ s' : ((Nat → Nat → Int32) × (Nat → Int32)) × Int32, (eqS a v s'.1.1 s'.1.2 ∧ s'.2 = lp (fun e b => if ftX a n q sm (crn (a 10) (a 12) mn k n (a 4) (a 7) (a 8) (a 6) (cwl (a 10) (a 12) mn k (a 5) (evB k &&& (sh1 (nI e) ^^^ -1))) (evB k &&& (sh1 (nI e) ^^^ -1))) = true then b ||| sh1 (nI e) else b) 0 (m + 1) 0) ∧ ∀ o, Rn E 2 mX7_never (4, [(2, .int (nI (m + 1))), (1, .int s'.2), (0, .ref 0)], [], wX s'.1.1 s'.1.2 t r) o → Rn E 2 mX7_never (4, [(2, .int (nI m)), (1, .int s.2), (0, .ref 0)], [], wX s.1.1 s.1.2 t r) o := by
    intro m ⟨⟨a1, v1⟩, b⟩ hm ⟨hI, hb⟩
    have hI : eqS a v a1 v1 := hI
    have hb : b = lp _ 0 m 0 := hb
    obtain ⟨kp, hkp⟩ : ∃ kp, kp = evB k &&& (sh1 (nI m) ^^^ -1) := ⟨_, rfl⟩
    have i11 := hI.1 11 (by decide)
    obtain ⟨a2, hr2, hs2, hw2⟩ := r_oPour (E := E) (a := a1) (v := v1) (t := t) (r := r) kp (F := 5) (Or.inl rfl) hk ((hI.2 5 (by decide)).trans hv5) (mn := mn) (by rw [i11]; exact hmn)
    rw [hI.1 10 (by decide), hI.1 12 (by decide), hI.1 5 (by decide)] at hw2
    have h2 := hI.trans hs2
    have j11 := h2.1 11 (by decide)
    obtain ⟨a3, v3, hr3, hs3, -, -, hH⟩ := r_oRun (E := E) (a := a2) (v := v1) (t := t) (r := r) (W := 27) (Or.inr rfl) kp hn ((hI.2 4 (by decide)).trans hv4) hk ((hI.2 5 (by decide)).trans hv5) (mn := mn) (by rw [j11]; exact hmn) (wl := cwl (a 10) (a 12) mn k (a 5) kp) hw2
    rw [h2.1 10 (by decide), h2.1 12 (by decide), h2.1 4 (by decide), h2.1 7 (by decide), h2.1 8 (by decide), h2.1 6 (by decide)] at hH
    have h3 := h2.trans hs3
    have hF := r_fitX (E := E) (t := t) (r := r) hW (h3.1 8 (by decide)) (h3.1 14 (by decide)) (h3.1 15 (by decide)) (h3.1 16 (by decide)) (h3.2 4 (by decide)) (h3.2 6 (by decide)) hH
    refine ⟨((a3, v3), if ftX a n q sm (crn (a 10) (a 12) mn k n (a 4) (a 7) (a 8) (a 6) (cwl (a 10) (a 12) mn k (a 5) kp) kp) = true then b ||| sh1 (nI m) else b), ⟨h3, by rw [lp_end, ← hb, Nat.zero_add, hkp]⟩, fun o kk => ?_⟩
    dsimp only at kk ⊢
    rw [nI_succ] at kk
    repeat refine Rn.step rfl ?_
    refine Rn.br2 rfl (by rw [hI.2 5 (by decide), hv5]; exact nle hm (by omega)) ?_
    repeat refine Rn.step rfl ?_
    refine Rn.calli rfl rfl rfl (by decide) r_bits (fun z1 f1 => ?_)
    rw [hI.2 5 (by decide), eB] at f1
    subst f1
    iterate 6 refine Rn.step rfl ?_
    refine Rn.top hkp.symm ?_
    repeat refine Rn.step rfl ?_
    refine Rn.callv rfl rfl rfl (by decide) hr2 ?_
    repeat refine Rn.step rfl ?_
    refine Rn.callv rfl rfl rfl (by decide) hr3 ?_
    repeat refine Rn.step rfl ?_
    refine Rn.calli rfl rfl rfl (by decide) hF (fun z2 f2 => ?_)
    refine Rn.br rfl (fun h1 => ?_) (fun h1 => ?_)
    · rw [f2, ib_eq0] at h1
      rw [if_neg h1] at kk
      iterate 2 refine Rn.step rfl ?_
      exact Rn.sub (by exact ⟨rfl, rfl, rfl, trivial⟩) kk
    · rw [f2, ib_ne0] at h1
      rw [if_pos h1] at kk
      iterate 8 refine Rn.step rfl ?_
      exact Rn.sub (by exact ⟨rfl, rfl, rfl, trivial⟩) kk
  obtain ⟨⟨⟨a', v'⟩, b⟩, ⟨hI, hb⟩, hgo⟩ := Rn.lpx (E := E) (hh := 2) (M := mX7_never) (σ := ((Nat → Nat → Int32) × (Nat → Int32)) × Int32) (cfg := fun m s => (4, [(2, .int (nI m)), (1, .int s.2), (0, .ref 0)], [], wX s.1.1 s.1.2 t r)) (n := k) (fun m s => eqS a v s.1.1 s.1.2 ∧ s.2 = lp (fun e b => if ftX a n q sm (crn (a 10) (a 12) mn k n (a 4) (a 7) (a 8) (a 6) (cwl (a 10) (a 12) mn k (a 5) (evB k &&& (sh1 (nI e) ^^^ -1))) (evB k &&& (sh1 (nI e) ^^^ -1))) = true then b ||| sh1 (nI e) else b) 0 m 0) hstep k 0 ((a, v), 0) (by omega) ⟨eqS.rf, rfl⟩
  dsimp only at hgo
  have hI : eqS a v a' v' := hI
  have hb : b = neF a n k q mn sm := hb
  refine ⟨a', v', ?_, hI.eqT, SetX_congr (fun j hj => hI.1 j (by intro q; simp only [List.mem_cons, List.not_mem_nil, or_false] at hj q; omega)) (hI.2 1 (by decide)) hS⟩
  iterate 4 refine Rn.step rfl ?_
  refine hgo _ ?_
  repeat refine Rn.step rfl ?_
  refine Rn.br1 rfl (by rw [hI.2 5 (by decide), hv5]; exact nI_le (by omega) (by omega)) ?_
  repeat refine Rn.step rfl ?_
  rw [← hb]
  exact Rn.ret rfl
theorem r_grade_bad (x : Int32) (hb : ¬ (inB x 16)) : Rn E 3 mX7_grade (0, [(0, .ref 0), (1, .int x)], [], wX a v t r) ((some (.int (-2))), wX a v t r) := by
  repeat refine Rn.step rfl ?_
  refine Rn.calli rfl rfl rfl (by decide) (r_within x 16 _) (fun x0 e0 => ?_)
  refine Rn.br2 rfl (fun h0 => hb (ib_ne0.mp (e0 ▸ h0))) ?_
  repeat refine Rn.step rfl ?_
  exact Rn.ret rfl
theorem r_grade {n k q : Nat} {mn sm : Nat → Nat} (hW : WfX a v n k q mn sm) (hS : SetX a v mn k n) {s : Nat} (hs : s < 16) : AX E 3 mX7_grade [(0, .ref 0), (1, .int (nI s))] a v t r mn k n (some (.int (grF a n k q mn sm s))) := by
  obtain ⟨a', v', hr, he, h1, hV⟩ := r_settle (E := E) (t := t) (r := r) hW hS
  have hW' := hW.moved he
  obtain ⟨⟨hn, hv4⟩, ⟨hk, hv5, hmn⟩, -⟩ := id hW'
  have hV1 := hV.1
  rw [cW_eq he] at hV1
  have eB : sh1 (v' 5) - 1 = evB k := by rw [hv5]; rfl
  have e10 := he.1 10 (by decide)
  have e12 := he.1 12 (by decide)
  have e4 := he.1 4 (by decide)
  have e5 := he.1 5 (by decide)
  have e6 := he.1 6 (by decide)
  have e7 := he.1 7 (by decide)
  have e8 := he.1 8 (by decide)
  have hstep : ∀ (m : Nat) (w : ((Nat → Nat → Int32) × (Nat → Int32)) × Int32), m < 3 → ((∃ c, SrI 4 a' v' (upd (a' 4) s c) w.1) ∧ w.2 = lp (fun i b => if ftX a n q sm (crn (a 10) (a 12) mn k n (upd (a 4) s (nI (i + 1))) (a 7) (a 8) (a 6) (cW a mn k) (evB k)) = true then b ||| sh1 (nI (i + 1)) else b) 0 m 0) → ∃ w' : ((Nat → Nat → Int32) × (Nat → Int32)) × Int32, ((∃ c, SrI 4 a' v' (upd (a' 4) s c) w'.1) ∧ w'.2 = lp (fun i b => if ftX a n q sm (crn (a 10) (a 12) mn k n (upd (a 4) s (nI (i + 1))) (a 7) (a 8) (a 6) (cW a mn k) (evB k)) = true then b ||| sh1 (nI (i + 1)) else b) 0 (m + 1) 0) ∧ ∀ o, Rn E 3 mX7_grade (31, [(4, .int (nI ((m + 1) + 1))), (3, .int w'.2), (2, .int (a' 4 s)), (0, .ref 0), (1, .int (nI s))], [], wX w'.1.1 w'.1.2 t r) o → Rn E 3 mX7_grade (31, [(4, .int (nI (m + 1))), (3, .int w.2), (2, .int (a' 4 s)), (0, .ref 0), (1, .int (nI s))], [], wX w.1.1 w.1.2 t r) o := by
    intro m ⟨⟨s1, s2⟩, b⟩ hm ⟨⟨c, hI1⟩, hb⟩
    have hb : b = lp _ 0 m 0 := hb
    have hX : s1 4 = upd (a' 4) s c := hI1.1
    have hJ := hI1.up (upd (a' 4) s (nI (m + 1)))
    obtain ⟨a1, ha1⟩ : ∃ a1, a1 = va_up s1 4 (upd (a' 4) s (nI (m + 1))) := ⟨_, rfl⟩
    rw [← ha1] at hJ
    have jA : a1 4 = upd (a' 4) s (nI (m + 1)) := hJ.1
    have jB : ∀ k, k ∉ [28, 29, 30, 32, 33, 34, 35, 36] → k ≠ 4 → a1 k = a' k := hJ.2.1
    have g11 := jB 11 (by decide) (by decide)
    have g19 := jB 19 (by decide) (by decide)
    have jV : ∀ k, k ∉ [2, 3, 9, 10] → s2 k = v' k := hI1.2.2
    obtain ⟨a2, v2, hr2, hs2, -, -, hH⟩ := r_oRun (E := E) (a := a1) (v := s2) (t := t) (r := r) (W := 18) (Or.inl rfl) (evB k) hn ((jV 4 (by decide)).trans hv4) hk ((jV 5 (by decide)).trans hv5) (mn := mn) (by rw [g11]; exact hmn) (wl := cW a mn k) (by show ∀ j, j < 384 → a1 19 j = _; rw [g19]; exact hV1)
    rw [jB 10 (by decide) (by decide), jB 12 (by decide) (by decide), jA, jB 7 (by decide) (by decide), jB 8 (by decide) (by decide), jB 6 (by decide) (by decide), e10, e12, e4, e7, e8, e6] at hH
    have hK : SrI 4 a' v' (upd (a' 4) s (nI (m + 1))) (a2, v2) := hJ.eqS (by decide) hs2
    have kB : ∀ k, k ∉ [28, 29, 30, 32, 33, 34, 35, 36] → k ≠ 4 → a2 k = a' k := hK.2.1
    have kV : ∀ k, k ∉ [2, 3, 9, 10] → v2 k = v' k := hK.2.2
    have hF := r_fitX (E := E) (t := t) (r := r) hW ((kB 8 (by decide) (by decide)).trans e8) ((kB 14 (by decide) (by decide)).trans (he.1 14 (by decide))) ((kB 15 (by decide) (by decide)).trans (he.1 15 (by decide))) ((kB 16 (by decide) (by decide)).trans (he.1 16 (by decide))) ((kV 4 (by decide)).trans (he.2 4 (by decide))) ((kV 6 (by decide)).trans (he.2 6 (by decide))) hH
    refine ⟨((a2, v2), if ftX a n q sm (crn (a 10) (a 12) mn k n (upd (a 4) s (nI (m + 1))) (a 7) (a 8) (a 6) (cW a mn k) (evB k)) = true then b ||| sh1 (nI (m + 1)) else b), ⟨⟨nI (m + 1), hK⟩, by rw [lp_end, ← hb, Nat.zero_add]⟩, fun o kk => ?_⟩
    dsimp only at kk ⊢
    rw [nI_succ] at kk
    repeat refine Rn.step rfl ?_
    refine Rn.br2 rfl (fun q => absurd (show nI 3 < nI (m + 1) from q) (Int32.not_lt.mpr (nI_le (by omega) (by decide)))) ?_
    repeat refine Rn.step rfl ?_
    refine Rn.ast s rfl rfl hs (by decide) (h3 := wX a1 s2 t r) (by rw [hX, upd_upd, ha1]; rfl) ?_
    repeat refine Rn.step rfl ?_
    refine Rn.calli rfl rfl rfl (by decide) r_bits (fun z1 f1 => ?_)
    rw [jV 5 (by decide), eB] at f1
    subst f1
    refine Rn.callv rfl rfl rfl (by decide) hr2 ?_
    repeat refine Rn.step rfl ?_
    refine Rn.calli rfl rfl rfl (by decide) hF (fun z2 f2 => ?_)
    refine Rn.br rfl (fun h1 => ?_) (fun h1 => ?_)
    · rw [f2, ib_eq0] at h1
      rw [if_neg h1] at kk
      iterate 2 refine Rn.step rfl ?_
      exact Rn.sub (by exact ⟨rfl, rfl, rfl, rfl, rfl, trivial⟩) kk
    · rw [f2, ib_ne0] at h1
      rw [if_pos h1] at kk
      iterate 8 refine Rn.step rfl ?_
      exact Rn.sub (by exact ⟨rfl, rfl, rfl, rfl, rfl, trivial⟩) kk
  obtain ⟨⟨⟨s1, s2⟩, b⟩, ⟨⟨c, hI1⟩, hb⟩, hgo⟩ := Rn.lpx (E := E) (hh := 3) (M := mX7_grade) (σ := ((Nat → Nat → Int32) × (Nat → Int32)) × Int32) (cfg := fun m w => (31, [(4, .int (nI (m + 1))), (3, .int w.2), (2, .int (a' 4 s)), (0, .ref 0), (1, .int (nI s))], [], wX w.1.1 w.1.2 t r)) (n := 3) (fun m w => (∃ c, SrI 4 a' v' (upd (a' 4) s c) w.1) ∧ w.2 = lp (fun i b => if ftX a n q sm (crn (a 10) (a 12) mn k n (upd (a 4) s (nI (i + 1))) (a 7) (a 8) (a 6) (cW a mn k) (evB k)) = true then b ||| sh1 (nI (i + 1)) else b) 0 m 0) hstep 3 0 ((a', v'), 0) rfl ⟨⟨a' 4 s, (upd_self _ _).symm, fun _ _ _ => rfl, fun _ _ => rfl⟩, rfl⟩
  dsimp only at hgo
  have hb : b = grF a n k q mn sm s := hb
  have hX : s1 4 = upd (a' 4) s c := hI1.1
  have hfin := (hI1.up (a' 4)).2.1
  have hE : eqT a v (va_up s1 4 (a' 4)) s2 := by
    refine ⟨fun j hj => ?_, fun j hj => ?_⟩
    · rw [← he.1 j hj]
      by_cases h6 : j = 4
      · subst h6; rfl
      · exact hfin j (by intro q; simp only [List.mem_cons, List.not_mem_nil, or_false] at hj q; omega) h6
    · rw [← he.2 j hj]
      exact hI1.2.2 j (by intro q; simp only [List.mem_cons, List.not_mem_nil, or_false] at hj q; omega)
  have hVV : ValX (va_up s1 4 (a' 4)) mn k n := by
    refine ValX_congr (fun j hj => ?_) hV
    by_cases h6 : j = 4
    · subst h6; rfl
    · exact hfin j (by intro q; simp only [List.mem_cons, List.not_mem_nil, or_false] at hj q; omega) h6
  refine ⟨va_up s1 4 (a' 4), s2, ?_, hE, Or.inr ⟨(hI1.2.2 1 (by decide)).trans h1, hVV⟩⟩
  repeat refine Rn.step rfl ?_
  refine Rn.calli rfl rfl rfl (by decide) (r_within (nI s) 16 _) (fun x0 e0 => ?_)
  refine Rn.br1 rfl (by rw [e0, ib_ne0]; exact inB_nI (n := 16) hs (by decide)) ?_
  repeat refine Rn.step rfl ?_
  refine Rn.callv rfl rfl rfl (by decide) hr ?_
  repeat refine Rn.step rfl ?_
  refine Rn.ald s rfl rfl hs (by decide) ?_
  iterate 5 refine Rn.step rfl ?_
  refine hgo _ ?_
  repeat refine Rn.step rfl ?_
  refine Rn.ast s rfl rfl hs (by decide) (h3 := wX (va_up s1 4 (a' 4)) s2 t r) (by rw [hX, upd_back]; rfl) ?_
  repeat refine Rn.step rfl ?_
  rw [← hb]
  exact Rn.ret rfl
/-- the traces of the draughts that fit -/
def TrX (a : Nat → Nat → Int32) (n k q : Nat) (mn sm : Nat → Nat) (l m : Nat) (T : Nat → Int64) : Prop := ∀ d, d < m → ftX a n q sm (dgX a n k mn l (d + 1)) = true → ∀ i, i < 24 → T ((d + 1) * 24 + i) = trF (dgX a n k mn l (d + 1)).1 n i
theorem trA_in {H : Nat → Int32} {n fr : Nat} {T : Nat → Int64} (i : Nat) (hi : i < 24) : trA H n fr T (fr + i) = trF H n i := by
  have h := lp_inv (f := fun m T => vp_updL T (fr + m) (trF H n m)) (fun c T => ∀ i, i < c → T (fr + i) = trF H n i) (i := 0) (j := 24) (s := T) (fun i hi => absurd hi (Nat.not_lt_zero _)) (fun c T _ _ hT i hi => by
    show (if fr + i = fr + c then trF H n c else T (fr + i)) = _
    by_cases hc : i = c
    · subst hc; rw [if_pos rfl]
    · rw [if_neg (by omega)]; exact hT i (by omega))
  exact h i (by omega)
theorem trA_off {H : Nat → Int32} {n fr : Nat} {T : Nat → Int64} (j : Nat) (hj : j < fr) : trA H n fr T j = T j := by
  have h := lp_inv (f := fun m T => vp_updL T (fr + m) (trF H n m)) (fun c T' => T' j = T j) (i := 0) (j := 24) (s := T) rfl (fun c T' _ _ hT => by
    show (if j = fr + c then trF H n c else T' j) = _
    rw [if_neg (by omega)]; exact hT)
  exact h
theorem r_traceDraughts {n k q : Nat} {mn sm : Nat → Nat} (hW : WfX a v n k q mn sm) (hS : SetX a v mn k n) {l : Nat} (hl : l < n) : ∃ (a' : Nat → Nat → Int32) (v' : Nat → Int32) (T : Nat → Int64), Rn E 3 mX7_traceDraughts (0, [(0, .ref 0), (1, .int (nI l))], [], wX a v t r) (some (.int (dgB a n k q mn sm l 9)), wX a' v' (va_up t 0 T) r) ∧ eqT a v a' v' ∧ v' 1 = 1 ∧ ValX a' mn k n ∧ TrX a n k q mn sm l 9 T := by
  obtain ⟨a', v', hr, he, h1, hV⟩ := r_settle (E := E) (t := t) (r := r) hW hS
  have hW' := hW.moved he
  obtain ⟨⟨hn, hv4⟩, ⟨hk, hv5, hmn⟩, -⟩ := id hW'
  have hV1 := hV.1
  rw [cW_eq he] at hV1
  have eB : sh1 (v' 5) - 1 = evB k := by rw [hv5]; rfl
  have e10 := he.1 10 (by decide)
  have e12 := he.1 12 (by decide)
  have e4 := he.1 4 (by decide)
  have e5 := he.1 5 (by decide)
  have e6 := he.1 6 (by decide)
  have e7 := he.1 7 (by decide)
  have e8 := he.1 8 (by decide)
  have hstep : ∀ (m : Nat) (w : (((Nat → Nat → Int32) × (Nat → Int32)) × Int32) × (Nat → Int64)), m < 9 → ((∃ c, SrI 7 a' v' (upd (a' 7) l c) w.1.1) ∧ w.1.2 = dgB a n k q mn sm l m ∧ TrX a n k q mn sm l m w.2) → ∃ w' : (((Nat → Nat → Int32) × (Nat → Int32)) × Int32) × (Nat → Int64), ((∃ c, SrI 7 a' v' (upd (a' 7) l c) w'.1.1) ∧ w'.1.2 = dgB a n k q mn sm l (m + 1) ∧ TrX a n k q mn sm l (m + 1) w'.2) ∧ ∀ o, Rn E 3 mX7_traceDraughts (19, [(4, .int (nI ((m + 1) + 1))), (3, .int w'.1.2), (2, .int (a' 7 l)), (0, .ref 0), (1, .int (nI l))], [], wX w'.1.1.1 w'.1.1.2 (va_up t 0 w'.2) r) o → Rn E 3 mX7_traceDraughts (19, [(4, .int (nI (m + 1))), (3, .int w.1.2), (2, .int (a' 7 l)), (0, .ref 0), (1, .int (nI l))], [], wX w.1.1.1 w.1.1.2 (va_up t 0 w.2) r) o := by
    intro m ⟨⟨⟨s1, s2⟩, b⟩, T⟩ hm ⟨⟨c, hI1⟩, hb, hT⟩
    have hb : b = dgB a n k q mn sm l m := hb
    have hT : TrX a n k q mn sm l m T := hT
    have hX : s1 7 = upd (a' 7) l c := hI1.1
    have hJ := hI1.up (upd (a' 7) l (nI (m + 1)))
    obtain ⟨a1, ha1⟩ : ∃ a1, a1 = va_up s1 7 (upd (a' 7) l (nI (m + 1))) := ⟨_, rfl⟩
    rw [← ha1] at hJ
    have jA : a1 7 = upd (a' 7) l (nI (m + 1)) := hJ.1
    have jB : ∀ k, k ∉ [28, 29, 30, 32, 33, 34, 35, 36] → k ≠ 7 → a1 k = a' k := hJ.2.1
    have g11 := jB 11 (by decide) (by decide)
    have g19 := jB 19 (by decide) (by decide)
    have jV : ∀ k, k ∉ [2, 3, 9, 10] → s2 k = v' k := hI1.2.2
    obtain ⟨a2, v2, hr2, hs2, -, -, hH⟩ := r_oRun (E := E) (a := a1) (v := s2) (t := va_up t 0 T) (r := r) (W := 18) (Or.inl rfl) (evB k) hn ((jV 4 (by decide)).trans hv4) hk ((jV 5 (by decide)).trans hv5) (mn := mn) (by rw [g11]; exact hmn) (wl := cW a mn k) (by show ∀ j, j < 384 → a1 19 j = _; rw [g19]; exact hV1)
    rw [jB 10 (by decide) (by decide), jB 12 (by decide) (by decide), jB 4 (by decide) (by decide), jA, jB 8 (by decide) (by decide), jB 6 (by decide) (by decide), e10, e12, e4, e7, e8, e6] at hH
    have hK : SrI 7 a' v' (upd (a' 7) l (nI (m + 1))) (a2, v2) := hJ.eqS (by decide) hs2
    have kB : ∀ k, k ∉ [28, 29, 30, 32, 33, 34, 35, 36] → k ≠ 7 → a2 k = a' k := hK.2.1
    have kV : ∀ k, k ∉ [2, 3, 9, 10] → v2 k = v' k := hK.2.2
    have hF := r_fitX (E := E) (t := va_up t 0 T) (r := r) hW ((kB 8 (by decide) (by decide)).trans e8) ((kB 14 (by decide) (by decide)).trans (he.1 14 (by decide))) ((kB 15 (by decide) (by decide)).trans (he.1 15 (by decide))) ((kB 16 (by decide) (by decide)).trans (he.1 16 (by decide))) ((kV 4 (by decide)).trans (he.2 4 (by decide))) ((kV 6 (by decide)).trans (he.2 6 (by decide))) hH
    have hH' : HdS a2 n (dgX a n k mn l (m + 1)) := hH
    by_cases hf : ftX a n q sm (dgX a n k mn l (m + 1)) = true
    · have hTr : TrX a n k q mn sm l (m + 1) (trA (a2 32) n ((m + 1) * 24) T) := by
        intro d hd hfd i hi
        by_cases hdm : d = m
        · subst hdm
          rw [trA_in i hi]
          exact trF_congr (fun l' hl' => (hH' i l' hi hl').1)
        · rw [trA_off _ (by omega)]
          exact hT d (by omega) hfd i hi
      refine ⟨(((a2, v2), b ||| sh1 (nI (m + 1))), trA (a2 32) n ((m + 1) * 24) T), ⟨⟨nI (m + 1), hK⟩, by unfold dgB; rw [lp_end, Nat.zero_add, if_pos hf, hb]; rfl, hTr⟩, fun o kk => ?_⟩
      dsimp only at kk ⊢
      rw [nI_succ] at kk
      repeat refine Rn.step rfl ?_
      refine Rn.br2 rfl (fun q => absurd (show nI 9 < nI (m + 1) from q) (Int32.not_lt.mpr (nI_le (by omega) (by decide)))) ?_
      repeat refine Rn.step rfl ?_
      refine Rn.ast l rfl rfl (by omega) (by decide) (h3 := wX a1 s2 (va_up t 0 T) r) (by rw [hX, upd_upd, ha1]; rfl) ?_
      repeat refine Rn.step rfl ?_
      refine Rn.calli rfl rfl rfl (by decide) r_bits (fun z1 f1 => ?_)
      rw [jV 5 (by decide), eB] at f1
      subst f1
      refine Rn.callv rfl rfl rfl (by decide) hr2 ?_
      repeat refine Rn.step rfl ?_
      refine Rn.calli rfl rfl rfl (by decide) hF (fun z2 f2 => ?_)
      refine Rn.br2 rfl (by rw [f2, ib_eq0]; exact fun q => q hf) ?_
      iterate 15 refine Rn.step rfl ?_
      refine Rn.top (x' := nI ((m + 1) * 24)) (by rw [← pk_mul]; rfl) ?_
      refine Rn.callv rfl rfl rfl (by decide) (r_trace hn ((kV 4 (by decide)).trans hv4) (by omega)) ?_
      iterate 2 refine Rn.step rfl ?_
      refine Rn.hp (h2 := wX a2 v2 (va_up t 0 (trA (a2 32) n ((m + 1) * 24) T)) r) rfl ?_
      exact Rn.sub (by exact ⟨rfl, rfl, rfl, rfl, rfl, trivial⟩) kk
    · have hTr : TrX a n k q mn sm l (m + 1) T := by
        intro d hd hfd i hi
        by_cases hdm : d = m
        · subst hdm
          exact absurd hfd hf
        · exact hT d (by omega) hfd i hi
      refine ⟨(((a2, v2), b), T), ⟨⟨nI (m + 1), hK⟩, by unfold dgB; rw [lp_end, Nat.zero_add, if_neg hf, hb]; rfl, hTr⟩, fun o kk => ?_⟩
      dsimp only at kk ⊢
      rw [nI_succ] at kk
      repeat refine Rn.step rfl ?_
      refine Rn.br2 rfl (fun q => absurd (show nI 9 < nI (m + 1) from q) (Int32.not_lt.mpr (nI_le (by omega) (by decide)))) ?_
      repeat refine Rn.step rfl ?_
      refine Rn.ast l rfl rfl (by omega) (by decide) (h3 := wX a1 s2 (va_up t 0 T) r) (by rw [hX, upd_upd, ha1]; rfl) ?_
      repeat refine Rn.step rfl ?_
      refine Rn.calli rfl rfl rfl (by decide) r_bits (fun z1 f1 => ?_)
      rw [jV 5 (by decide), eB] at f1
      subst f1
      refine Rn.callv rfl rfl rfl (by decide) hr2 ?_
      repeat refine Rn.step rfl ?_
      refine Rn.calli rfl rfl rfl (by decide) hF (fun z2 f2 => ?_)
      refine Rn.br1 rfl (by rw [f2, ib_eq0]; exact hf) ?_
      iterate 2 refine Rn.step rfl ?_
      exact Rn.sub (by exact ⟨rfl, rfl, rfl, rfl, rfl, trivial⟩) kk
  obtain ⟨⟨⟨⟨s1, s2⟩, b⟩, T⟩, ⟨⟨c, hI1⟩, hb, hT⟩, hgo⟩ := Rn.lpx (E := E) (hh := 3) (M := mX7_traceDraughts) (σ := (((Nat → Nat → Int32) × (Nat → Int32)) × Int32) × (Nat → Int64)) (cfg := fun m w => (19, [(4, .int (nI (m + 1))), (3, .int w.1.2), (2, .int (a' 7 l)), (0, .ref 0), (1, .int (nI l))], [], wX w.1.1.1 w.1.1.2 (va_up t 0 w.2) r)) (n := 9) (fun m w => (∃ c, SrI 7 a' v' (upd (a' 7) l c) w.1.1) ∧ w.1.2 = dgB a n k q mn sm l m ∧ TrX a n k q mn sm l m w.2) hstep 9 0 (((a', v'), 0), t 0) rfl ⟨⟨a' 7 l, (upd_self _ _).symm, fun _ _ _ => rfl, fun _ _ => rfl⟩, rfl, fun d hd => absurd hd (Nat.not_lt_zero _)⟩
  dsimp only at hgo
  have hb : b = dgB a n k q mn sm l 9 := hb
  have hT : TrX a n k q mn sm l 9 T := hT
  have hX : s1 7 = upd (a' 7) l c := hI1.1
  have hfin := (hI1.up (a' 7)).2.1
  have hE : eqT a v (va_up s1 7 (a' 7)) s2 := by
    refine ⟨fun j hj => ?_, fun j hj => ?_⟩
    · rw [← he.1 j hj]
      by_cases h6 : j = 7
      · subst h6; rfl
      · exact hfin j (by intro q; simp only [List.mem_cons, List.not_mem_nil, or_false] at hj q; omega) h6
    · rw [← he.2 j hj]
      exact hI1.2.2 j (by intro q; simp only [List.mem_cons, List.not_mem_nil, or_false] at hj q; omega)
  have hVV : ValX (va_up s1 7 (a' 7)) mn k n := by
    refine ValX_congr (fun j hj => ?_) hV
    by_cases h6 : j = 7
    · subst h6; rfl
    · exact hfin j (by intro q; simp only [List.mem_cons, List.not_mem_nil, or_false] at hj q; omega) h6
  refine ⟨va_up s1 7 (a' 7), s2, T, ?_, hE, (hI1.2.2 1 (by decide)).trans h1, hVV, hT⟩
  repeat refine Rn.step rfl ?_
  refine Rn.callv rfl rfl rfl (by decide) hr ?_
  repeat refine Rn.step rfl ?_
  refine Rn.ald l rfl rfl (by omega) (by decide) ?_
  iterate 5 refine Rn.step rfl ?_
  refine Rn.hp (h2 := wX a' v' (va_up t 0 (t 0)) r) rfl ?_
  refine hgo _ ?_
  repeat refine Rn.step rfl ?_
  refine Rn.ast l rfl rfl (by omega) (by decide) (h3 := wX (va_up s1 7 (a' 7)) s2 (va_up t 0 T) r) (by rw [hX, upd_back]; rfl) ?_
  repeat refine Rn.step rfl ?_
  rw [← hb]
  exact Rn.ret rfl
end XF
end
section
section BITS
/-- a number by its bits -/
def gb (x : Int32) (i : Nat) : Bool := x.toBitVec.getLsbD i
theorem gb_ext {x y : Int32} (h : ∀ i, i < 32 → gb x i = gb y i) : x = y := Int32.toBitVec_inj.mp (BitVec.eq_of_getLsbD_eq (fun i hi => h i hi))
theorem gb_or (x y : Int32) (i : Nat) : gb (x ||| y) i = (gb x i || gb y i) := by unfold gb; rw [Int32.toBitVec_or, BitVec.getLsbD_or]
theorem gb_and (x y : Int32) (i : Nat) : gb (x &&& y) i = (gb x i && gb y i) := by unfold gb; rw [Int32.toBitVec_and, BitVec.getLsbD_and]
theorem gb_xor (x y : Int32) (i : Nat) : gb (x ^^^ y) i = (gb x i ^^ gb y i) := by unfold gb; rw [Int32.toBitVec_xor, BitVec.getLsbD_xor]
theorem gb_m1 : ∀ i, i < 32 → gb (-1) i = true := by decide +kernel
theorem gb_0 (i : Nat) : gb 0 i = false := BitVec.getLsbD_zero
theorem gb_1 : ∀ i, i < 32 → gb 1 i = decide (i = 0) := by decide +kernel
theorem gb_sl : ∀ n, n < 32 → ((nI n &&& 31).toBitVec.smod 32).toNat = n := by decide +kernel
theorem gb_shl (n : Nat) (hn : n < 32) (x : Int32) {i : Nat} (hi : i < 32) : gb (x <<< (nI n &&& 31)) i = (decide (n ≤ i) && gb x (i - n)) := by
  unfold gb
  rw [Int32.toBitVec_shiftLeft]
  show (x.toBitVec <<< ((nI n &&& 31).toBitVec.smod 32).toNat).getLsbD i = _
  rw [gb_sl n hn, BitVec.getLsbD_shiftLeft]
  rcases Nat.lt_or_ge i n with h | h
  · simp [h, Nat.not_le.mpr h]
  · simp [hi, h, Nat.not_lt.mpr h]
theorem gb_shr (n : Nat) (hn : n < 32) (x : Int32) {i : Nat} (hi : i < 32) : gb (x >>> (nI n &&& 31)) i = if n + i < 32 then gb x (n + i) else gb x 31 := by
  unfold gb
  rw [Int32.toBitVec_shiftRight]
  show (x.toBitVec.sshiftRight ((nI n &&& 31).toBitVec.smod 32).toNat).getLsbD i = _
  rw [gb_sl n hn, BitVec.getLsbD_sshiftRight, BitVec.msb_eq_getLsbD_last]
  simp [hi]
theorem gb_sh1 {n i : Nat} (hn : n < 32) (hi : i < 32) : gb (sh1 (nI n)) i = decide (i = n) := by
  rw [gb_shl n hn 1 hi, gb_1 _ (by omega)]
  by_cases h : i = n
  · subst h; simp
  · by_cases h2 : n ≤ i
    · rw [decide_eq_false h, decide_eq_true h2, decide_eq_false (show ¬ i - n = 0 by omega)]; rfl
    · rw [decide_eq_false h, decide_eq_false h2]; rfl
theorem gb_not {x : Int32} {i : Nat} (hi : i < 32) : gb (x ^^^ -1) i = !gb x i := by rw [gb_xor, gb_m1 i hi]; cases gb x i <;> rfl
theorem bt_gb {x : Int32} {e : Nat} (he : e < 32) : bt x e ↔ gb x e = true := by
  have h0 : gb ((x >>> (nI e &&& 31)) &&& 1) 0 = gb x e := by
    rw [gb_and, gb_shr e he x (by decide), gb_1 0 (by decide), if_pos (by omega)]; simp
  constructor
  · intro h
    rw [← h0, show (x >>> (nI e &&& 31)) &&& 1 = 1 from h]; decide
  · intro h
    show (x >>> (nI e &&& 31)) &&& 1 = 1
    refine gb_ext (fun i hi => ?_)
    by_cases hi0 : i = 0
    · subst hi0; rw [h0, h]; decide
    · rw [gb_and, gb_1 i hi, decide_eq_false hi0]; simp
theorem b0_gb {x : Int32} {e : Nat} (he : e < 32) : b0 x e ↔ gb x e = false := by
  have h0 : gb ((x >>> (nI e &&& 31)) &&& 1) 0 = gb x e := by
    rw [gb_and, gb_shr e he x (by decide), gb_1 0 (by decide), if_pos (by omega)]; simp
  constructor
  · intro h
    rw [← h0, show (x >>> (nI e &&& 31)) &&& 1 = 0 from h]; decide
  · intro h
    show (x >>> (nI e &&& 31)) &&& 1 = 0
    refine gb_ext (fun i hi => ?_)
    by_cases hi0 : i = 0
    · subst hi0; rw [h0, h]; decide
    · rw [gb_and, gb_1 i hi, decide_eq_false hi0, gb_0]; simp
theorem b0_bt {x : Int32} {e : Nat} (he : e < 32) : b0 x e ↔ ¬ bt x e := by rw [b0_gb he, bt_gb he]; cases gb x e <;> simp
/-- bits gathered in a loop -/
theorem or_bits {P : Nat → Prop} [DecidablePred P] {sh : Nat → Nat} (hsh : ∀ i j, sh i = sh j → i = j) (hs : ∀ i, i < 24 → sh i < 32) : ∀ m, m ≤ 24 → ∀ e, e < 32 → (gb (lp (fun i b => if P i then b ||| sh1 (nI (sh i)) else b) 0 m 0) e = true ↔ ∃ i, i < m ∧ P i ∧ sh i = e) := by
  intro m
  induction m with
  | zero =>
    intro _ e _
    show gb 0 e = true ↔ _
    rw [gb_0]
    simp
  | succ m ih =>
    intro hm e he
    rw [lp_end, Nat.zero_add]
    by_cases hP : P m
    · rw [if_pos hP, gb_or, gb_sh1 (hs m (by omega)) he, Bool.or_eq_true, ih (by omega) e he, decide_eq_true_eq]
      constructor
      · rintro (⟨i, hi, hp, h⟩ | h)
        · exact ⟨i, by omega, hp, h⟩
        · exact ⟨m, by omega, hP, h.symm⟩
      · rintro ⟨i, hi, hp, h⟩
        by_cases him : i = m
        · subst him; exact Or.inr h.symm
        · exact Or.inl ⟨i, by omega, hp, h⟩
    · rw [if_neg hP, ih (by omega) e he]
      constructor
      · rintro ⟨i, hi, hp, h⟩; exact ⟨i, by omega, hp, h⟩
      · rintro ⟨i, hi, hp, h⟩
        by_cases him : i = m
        · subst him; exact absurd hp hP
        · exact ⟨i, by omega, hp, h⟩
end BITS
end
section
section XG
variable {E : iExtT} {a : Nat → Nat → Int32} {v : Nat → Int32} {t : Nat → Nat → Int64} {r : List va_E}
/-- as AX, but that traces may change -/
def AXt (E : iExtT) (hh : Nat) (M : iMeth) (L : List (Nat × Value)) (a : Nat → Nat → Int32) (v : Nat → Int32) (t : Nat → Nat → Int64) (r : List va_E) (mn : Nat → Nat) (k n : Nat) (ans : Option Value) : Prop := ∃ (a' : Nat → Nat → Int32) (v' : Nat → Int32) (t' : Nat → Nat → Int64), Rn E hh M (0, L, [], wX a v t r) (ans, wX a' v' t' r) ∧ eqT a v a' v' ∧ SetX a' v' mn k n
theorem AX.toT {hh : Nat} {M : iMeth} {L : List (Nat × Value)} {mn : Nat → Nat} {k n : Nat} {ans : Option Value} (h : AX E hh M L a v t r mn k n ans) : AXt E hh M L a v t r mn k n ans := by
  obtain ⟨a', v', h1, h2, h3⟩ := h
  exact ⟨a', v', t, h1, h2, h3⟩
theorem dgB_bt {n k q : Nat} {mn sm : Nat → Nat} {l d : Nat} (hd : d < 9) (h : bt (dgB a n k q mn sm l 9) (d + 1)) : ftX a n q sm (dgX a n k mn l (d + 1)) = true := by
  rw [bt_gb (by omega)] at h
  obtain ⟨i, hi, hp, he⟩ := (or_bits (P := fun i => ftX a n q sm (dgX a n k mn l (i + 1)) = true) (sh := fun i => i + 1) (fun i j h => by omega) (fun i hi => by omega) 9 (by decide) (d + 1) (by omega)).mp h
  have he : i + 1 = d + 1 := he
  obtain rfl : i = d := by omega
  exact hp
/-- how many of the draughts have like traces behind a minute, at most -/
def alF (b : Int32) (T : Nat → Int64) (m x : Nat) : Int32 := lp (fun y c => if (bt b (x + 1) ∧ bt b (y + 1)) ∧ T ((x + 1) * 24 + m) = T ((y + 1) * 24 + m) then c + 1 else c) 0 9 0
def maL (b : Int32) (T : Nat → Int64) (m : Nat) : Int32 := lp (fun x c => if c < alF b T m x then alF b T m x else c) 0 9 0
def asF (b : Int32) (T : Nat → Int64) : Int32 := (lp (fun m s => if maL b T m < s.1 then (maL b T m, nI m) else s) 0 24 ((10 : Int32), (0 : Int32))).2
theorem maL_congr {b : Int32} {T U : Nat → Int64} {m : Nat} (h : ∀ d, d < 9 → bt b (d + 1) → T ((d + 1) * 24 + m) = U ((d + 1) * 24 + m)) : maL b T m = maL b U m := by
  have e : ∀ x, x < 9 → alF b T m x = alF b U m x := fun x hx => lp_congr (fun y c _ hy => by
    by_cases hb : bt b (x + 1) ∧ bt b (y + 1)
    · rw [h x hx hb.1, h y (by omega) hb.2]
    · rw [if_neg (fun q => hb q.1), if_neg (fun q => hb q.1)])
  exact lp_congr (fun x c _ hx => by rw [e x (by omega)])
theorem asF_congr {b : Int32} {T U : Nat → Int64} (h : ∀ m, m < 24 → maL b T m = maL b U m) : asF b T = asF b U := by
  unfold asF
  rw [lp_congr (fun m s _ hm => by rw [h m (by omega)])]
theorem r_mostAlike (b : Int32) {m : Nat} (hm : m < 24) : Rn E 0 mX7_mostAlike (0, [(0, .ref 0), (1, .int b), (2, .int (nI m))], [], wX a v t r) (some (.int (maL b (t 0) m)), wX a v t r) := by
  iterate 4 refine Rn.step rfl ?_
  refine Rn.lp (σ := Int32) (cfg := fun x s => (5, [(4, .int (nI (x + 1))), (3, .int s), (0, .ref 0), (1, .int b), (2, .int (nI m))], [], wX a v t r)) (f := fun x c => if c < alF b (t 0) m x then alF b (t 0) m x else c) (n := 9) (fun _ _ => True) (fun x s hx _ => ⟨trivial, fun kk => ?_⟩) 9 0 0 rfl trivial (fun s0 hs0 _ => ?_)
  · rw [nI_succ] at kk
    iterate 2 refine Rn.step rfl ?_
    refine Rn.br2 rfl (fun q => absurd (show nI 9 < nI (x + 1) from q) (Int32.not_lt.mpr (nI_le (by omega) (by decide)))) ?_
    iterate 4 refine Rn.step rfl ?_
    refine Rn.lp (σ := Int32) (cfg := fun y c => (18, [(6, .int (nI (y + 1))), (5, .int c), (4, .int (nI (x + 1))), (3, .int s), (0, .ref 0), (1, .int b), (2, .int (nI m))], [], wX a v t r)) (f := fun y c => if (bt b (x + 1) ∧ bt b (y + 1)) ∧ t 0 ((x + 1) * 24 + m) = t 0 ((y + 1) * 24 + m) then c + 1 else c) (n := 9) (fun _ _ => True) (fun y c hy _ => ⟨trivial, fun k2 => ?_⟩) 9 0 0 rfl trivial (fun c0 hc0 _ => ?_)
    · rw [nI_succ] at k2
      iterate 2 refine Rn.step rfl ?_
      refine Rn.br2 rfl (fun q => absurd (show nI 9 < nI (y + 1) from q) (Int32.not_lt.mpr (nI_le (by omega) (by decide)))) ?_
      repeat refine Rn.step rfl ?_
      refine Rn.br rfl (fun h1 => ?_) (fun h1 => ?_)
      · rw [if_neg (fun q => h1 q.1.1)] at k2
        iterate 6 refine Rn.step rfl ?_
        exact Rn.sub (by exact ⟨rfl, rfl, rfl, rfl, rfl, rfl, rfl, trivial⟩) k2
      · repeat refine Rn.step rfl ?_
        refine Rn.br rfl (fun h2 => ?_) (fun h2 => ?_)
        · rw [if_neg (fun q => h2 q.1.2)] at k2
          iterate 6 refine Rn.step rfl ?_
          exact Rn.sub (by exact ⟨rfl, rfl, rfl, rfl, rfl, rfl, rfl, trivial⟩) k2
        · repeat refine Rn.step rfl ?_
          refine Rn.all ((x + 1) * 24 + m) rfl (ix_ma (x + 1) 24 m) (by omega) (by decide) ?_
          repeat refine Rn.step rfl ?_
          refine Rn.all ((y + 1) * 24 + m) rfl (ix_ma (y + 1) 24 m) (by omega) (by decide) ?_
          repeat refine Rn.step rfl ?_
          refine Rn.br rfl (fun h3 => ?_) (fun h3 => ?_)
          · rw [if_neg (fun q => h3 ((lg_cmp_eq _ _).mpr q.2))] at k2
            iterate 2 refine Rn.step rfl ?_
            exact Rn.sub (by exact ⟨rfl, rfl, rfl, rfl, rfl, rfl, rfl, trivial⟩) k2
          · rw [if_pos ⟨⟨Decidable.not_not.mp h1, Decidable.not_not.mp h2⟩, (lg_cmp_eq _ _).mp (Decidable.not_not.mp h3)⟩] at k2
            iterate 3 refine Rn.step rfl ?_
            exact Rn.sub (by exact ⟨rfl, rfl, rfl, rfl, rfl, rfl, rfl, trivial⟩) k2
    · have hc0 : c0 = alF b (t 0) m x := hc0
      iterate 5 refine Rn.step rfl ?_
      iterate 4 refine Rn.step rfl ?_
      rw [← hc0] at kk
      exact Rn.sub (by exact ⟨rfl, rfl, rfl, rfl, rfl, trivial⟩) kk
  · have hs0 : s0 = maL b (t 0) m := hs0
    repeat refine Rn.step rfl ?_
    rw [← hs0]
    exact Rn.ret rfl
theorem r_draughts_bad (x : Int32) (hb : ¬ (inB x (v 4))) : Rn E 4 mX7_draughts (0, [(0, .ref 0), (1, .int x)], [], wX a v t r) ((some (.int (-2))), wX a v t r) := by
  repeat refine Rn.step rfl ?_
  refine Rn.calli rfl rfl rfl (by decide) (r_isLog x) (fun x0 e0 => ?_)
  refine Rn.br2 rfl (fun h0 => hb (ib_ne0.mp (e0 ▸ h0))) ?_
  repeat refine Rn.step rfl ?_
  exact Rn.ret rfl
theorem r_draughts {n k q : Nat} {mn sm : Nat → Nat} (hW : WfX a v n k q mn sm) (hS : SetX a v mn k n) {l : Nat} (hl : l < n) : AXt E 4 mX7_draughts [(0, .ref 0), (1, .int (nI l))] a v t r mn k n (some (.int (dgB a n k q mn sm l 9))) := by
  obtain ⟨⟨hn, hv4⟩, -⟩ := id hW
  obtain ⟨a', v', T, hr, he, h1, hV, hT⟩ := r_traceDraughts (E := E) (t := t) (r := r) hW hS hl
  refine ⟨a', v', va_up t 0 T, ?_, he, Or.inr ⟨h1, hV⟩⟩
  repeat refine Rn.step rfl ?_
  refine Rn.calli rfl rfl rfl (by decide) (r_isLog (nI l)) (fun x0 e0 => ?_)
  refine Rn.br1 rfl (by rw [e0, ib_ne0]; exact by rw [hv4]; exact inB_nI hl (by omega)) ?_
  repeat refine Rn.step rfl ?_
  refine Rn.calli rfl rfl rfl (by decide) hr (fun z f => ?_)
  rw [← f]
  exact Rn.ret rfl
def dgT (a : Nat → Nat → Int32) (n k : Nat) (mn : Nat → Nat) (l : Nat) : Nat → Int64 := fun j => trF (dgX a n k mn l (j / 24)).1 n (j % 24)
theorem r_ask_bad (x : Int32) (hb : ¬ (inB x (v 4))) : Rn E 4 mX7_ask (0, [(0, .ref 0), (1, .int x)], [], wX a v t r) ((some (.int (-2))), wX a v t r) := by
  repeat refine Rn.step rfl ?_
  refine Rn.calli rfl rfl rfl (by decide) (r_isLog x) (fun x0 e0 => ?_)
  refine Rn.br2 rfl (fun h0 => hb (ib_ne0.mp (e0 ▸ h0))) ?_
  repeat refine Rn.step rfl ?_
  exact Rn.ret rfl
theorem r_ask {n k q : Nat} {mn sm : Nat → Nat} (hW : WfX a v n k q mn sm) (hS : SetX a v mn k n) {l : Nat} (hl : l < n) : AXt E 4 mX7_ask [(0, .ref 0), (1, .int (nI l))] a v t r mn k n (some (.int (asF (dgB a n k q mn sm l 9) (dgT a n k mn l)))) := by
  obtain ⟨⟨hn, hv4⟩, -⟩ := id hW
  obtain ⟨a', v', T, hr, he, h1, hV, hT⟩ := r_traceDraughts (E := E) (t := t) (r := r) hW hS hl
  obtain ⟨b, hb⟩ : ∃ b, b = dgB a n k q mn sm l 9 := ⟨_, rfl⟩
  have hA : asF (dgB a n k q mn sm l 9) (dgT a n k mn l) = asF b T := by
    rw [← hb]
    refine (asF_congr (fun m hm => maL_congr (fun d hd hbt => ?_))).symm
    rw [hT d hd (dgB_bt hd (hb ▸ hbt)) m hm]
    unfold dgT
    rw [show ((d + 1) * 24 + m) / 24 = d + 1 by omega, show ((d + 1) * 24 + m) % 24 = m by omega]
  rw [hA]
  rw [← hb] at hr
  refine ⟨a', v', va_up t 0 T, ?_, he, Or.inr ⟨h1, hV⟩⟩
  repeat refine Rn.step rfl ?_
  refine Rn.calli rfl rfl rfl (by decide) (r_isLog (nI l)) (fun x0 e0 => ?_)
  refine Rn.br1 rfl (by rw [e0, ib_ne0]; exact by rw [hv4]; exact inB_nI hl (by omega)) ?_
  repeat refine Rn.step rfl ?_
  refine Rn.calli rfl rfl rfl (by decide) hr (fun z f => ?_)
  subst f
  iterate 7 refine Rn.step rfl ?_
  refine Rn.lp (σ := Int32 × Int32) (cfg := fun m s => (26, [(5, .int (nI m)), (4, .int s.1), (3, .int s.2), (2, .int z), (0, .ref 0), (1, .int (nI l))], [], wX a' v' (va_up t 0 T) r)) (f := fun m s => if maL z T m < s.1 then (maL z T m, nI m) else s) (n := 24) (fun _ _ => True) (fun m s hm _ => ⟨trivial, fun kk => ?_⟩) 24 0 (10, 0) rfl trivial (fun s0 hs0 _ => ?_)
  · rw [nI_succ] at kk
    iterate 2 refine Rn.step rfl ?_
    refine Rn.br2 rfl (nle hm (by decide)) ?_
    repeat refine Rn.step rfl ?_
    refine Rn.calli rfl rfl rfl (by decide) (r_mostAlike z hm) (fun z1 f1 => ?_)
    have f1 : z1 = maL z T m := f1
    iterate 3 refine Rn.step rfl ?_
    refine Rn.br rfl (fun h1 => ?_) (fun h1 => ?_)
    · rw [if_neg (by rw [← f1]; exact Int32.not_lt.mpr h1)] at kk
      iterate 2 refine Rn.step rfl ?_
      exact Rn.sub (by exact ⟨rfl, rfl, rfl, rfl, rfl, rfl, trivial⟩) kk
    · rw [if_pos (by rw [← f1]; exact Int32.not_le.mp h1), ← f1] at kk
      iterate 6 refine Rn.step rfl ?_
      exact Rn.sub (by exact ⟨rfl, rfl, rfl, rfl, rfl, rfl, trivial⟩) kk
  · have hs0 : s0.2 = asF z T := by rw [hs0]; rfl
    repeat refine Rn.step rfl ?_
    rw [← hs0]
    exact Rn.ret rfl
/-- the weight of the events kp, in sixteenths -/
def wtF (k : Nat) (c kp : Int32) : Int64 := lp (fun e w => w * (if bt kp e then c.toInt64 else (16 - c).toInt64)) 0 k 1
def sxF (a : Nat → Nat → Int32) (mn : Nat → Nat) (k n : Nat) (c : Int32) (l : Nat) (m : Nat) : Int64 := lp (fun p s => if ¬ wtF k c (nI p) = 0 ∧ bt (oC a mn k n (nI p)) l then s + wtF k c (nI p) else s) 0 m 0
theorem r_sixteenths {n k q : Nat} {mn sm : Nat → Nat} (hW : WfX a v n k q mn sm) (hS : SetX a v mn k n) (c : Int32) {l : Nat} (hl : l < n) : ∃ (a' : Nat → Nat → Int32) (v' : Nat → Int32), Rn E 3 mX7_sixteenthsOut (0, [(0, .ref 0), (1, .int c), (2, .int (nI l))], [], wX a v t r) (some (.long (sxF a mn k n c l (2 ^ k))), wX a' v' t r) ∧ eqT a v a' v' ∧ v' 1 = 1 ∧ ValX a' mn k n := by
  obtain ⟨a0, v0, hr0, he0, h1, hV0⟩ := r_settle (E := E) (t := t) (r := r) hW hS
  have hW0 := hW.moved he0
  obtain ⟨⟨hn, hv4⟩, ⟨hk, hv5, hmn⟩, -⟩ := id hW0
  have eB : sh1 (v0 5) - 1 = evB k := by rw [hv5]; rfl
  have hp2 : 2 ^ k - 1 < 256 := ev_lt k (by omega)
  have hp1 : 1 ≤ 2 ^ k := Nat.one_le_two_pow
  obtain ⟨N, hN⟩ : ∃ N, N = 2 ^ k := ⟨_, rfl⟩
  have eK : evB k = nI (N - 1) := by rw [hN]; exact evB_nI k (by omega)
  have hN1 : 1 ≤ N := by omega
  have hN2 : N ≤ 256 := by omega
  have hoc := oC_eq he0 mn k n
  rw [← hN]
  have hstep : ∀ (m : Nat) (w : ((Nat → Nat → Int32) × (Nat → Int32)) × Int64), m < N → (StX a0 v0 mn k n w.1 ∧ w.2 = sxF a mn k n c l m) → ∃ w' : ((Nat → Nat → Int32) × (Nat → Int32)) × Int64, (StX a0 v0 mn k n w'.1 ∧ w'.2 = sxF a mn k n c l (m + 1)) ∧ ∀ o, Rn E 3 mX7_sixteenthsOut (18, [(6, .int (nI (m + 1))), (5, .int (nI (N - 1))), (3, .long w'.2), (0, .ref 0), (1, .int c), (2, .int (nI l))], [], wX w'.1.1 w'.1.2 t r) o → Rn E 3 mX7_sixteenthsOut (18, [(6, .int (nI m)), (5, .int (nI (N - 1))), (3, .long w.2), (0, .ref 0), (1, .int c), (2, .int (nI l))], [], wX w.1.1 w.1.2 t r) o := by
    intro m ⟨⟨s1, s2⟩, x⟩ hm ⟨hs, hx⟩
    have hs : StX a0 v0 mn k n (s1, s2) := hs
    have hx : x = sxF a mn k n c l m := hx
    have hv52 : s2 5 = nI k := (hs.1.2 5 (by decide)).trans hv5
    have hxs : sxF a mn k n c l (m + 1) = if ¬ wtF k c (nI m) = 0 ∧ bt (oC a mn k n (nI m)) l then x + wtF k c (nI m) else x := by
      rw [hx]; unfold sxF; rw [lp_end, Nat.zero_add]
    have hwt : ∀ o, Rn E 3 mX7_sixteenthsOut (75, [(9, .int (nI k)), (7, .long (wtF k c (nI m))), (6, .int (nI m)), (5, .int (nI (N - 1))), (3, .long x), (0, .ref 0), (1, .int c), (2, .int (nI l))], [], wX s1 s2 t r) o → Rn E 3 mX7_sixteenthsOut (18, [(6, .int (nI m)), (5, .int (nI (N - 1))), (3, .long x), (0, .ref 0), (1, .int c), (2, .int (nI l))], [], wX s1 s2 t r) o := by
      intro o kk
      iterate 2 refine Rn.step rfl ?_
      refine Rn.br2 rfl (Int32.not_lt.mpr (nI_le (by omega) (by omega))) ?_
      iterate 4 refine Rn.step rfl ?_
      refine Rn.lp (σ := Int64) (cfg := fun e w => (31, [(9, .int (nI e)), (7, .long w), (6, .int (nI m)), (5, .int (nI (N - 1))), (3, .long x), (0, .ref 0), (1, .int c), (2, .int (nI l))], [], wX s1 s2 t r)) (f := fun e w => w * (if bt (nI m) e then c.toInt64 else (16 - c).toInt64)) (n := k) (fun _ _ => True) (fun e w he _ => ⟨trivial, fun k2 => ?_⟩) k 0 1 (by omega) trivial (fun w0 hw0 _ => ?_)
      · rw [nI_succ] at k2
        repeat refine Rn.step rfl ?_
        refine Rn.br2 rfl (by rw [hv52]; exact nle he (by omega)) ?_
        repeat refine Rn.step rfl ?_
        refine Rn.br rfl (fun h1 => ?_) (fun h1 => ?_)
        · rw [if_neg h1] at k2
          iterate 8 refine Rn.step rfl ?_
          exact k2
        · rw [if_pos (Decidable.not_not.mp h1)] at k2
          iterate 7 refine Rn.step rfl ?_
          exact k2
      · have hw0 : w0 = wtF k c (nI m) := hw0
        rw [← hw0] at kk
        repeat refine Rn.step rfl ?_
        refine Rn.br1 rfl (by rw [hv52]; exact nI_le (by omega) (by omega)) ?_
        exact kk
    by_cases hz : wtF k c (nI m) = 0
    · refine ⟨((s1, s2), x), ⟨hs, by rw [hxs, if_neg (fun q => q.1 hz)]⟩, fun o kk => ?_⟩
      dsimp only at kk ⊢
      rw [nI_succ] at kk
      refine hwt _ ?_
      iterate 3 refine Rn.step rfl ?_
      refine Rn.br1 rfl ((lg_cmp_eq _ _).mpr hz) ?_
      iterate 2 refine Rn.step rfl ?_
      exact Rn.sub (by exact ⟨rfl, rfl, rfl, rfl, rfl, rfl, trivial⟩) kk
    · obtain ⟨⟨u1, u2⟩, hr1, hu⟩ := r_oc (E := E) (t := t) (r := r) hW0 h1 hs (x := nI m) rfl (by omega)
      rw [hoc] at hr1
      dsimp only at hr1
      by_cases hb : bt (oC a mn k n (nI m)) l
      · refine ⟨((u1, u2), x + wtF k c (nI m)), ⟨hu, by rw [hxs, if_pos ⟨hz, hb⟩]⟩, fun o kk => ?_⟩
        dsimp only at kk ⊢
        rw [nI_succ] at kk
        refine hwt _ ?_
        iterate 3 refine Rn.step rfl ?_
        refine Rn.br2 rfl (fun q => hz ((lg_cmp_eq _ _).mp q)) ?_
        repeat refine Rn.step rfl ?_
        refine Rn.calli rfl rfl rfl (by decide) hr1 (fun z1 f1 => ?_)
        repeat refine Rn.step rfl ?_
        refine Rn.br2 rfl (fun q => q (by rw [f1]; exact hb)) ?_
        iterate 6 refine Rn.step rfl ?_
        exact Rn.sub (by exact ⟨rfl, rfl, rfl, rfl, rfl, rfl, trivial⟩) kk
      · refine ⟨((u1, u2), x), ⟨hu, by rw [hxs, if_neg (fun q => hb q.2)]⟩, fun o kk => ?_⟩
        dsimp only at kk ⊢
        rw [nI_succ] at kk
        refine hwt _ ?_
        iterate 3 refine Rn.step rfl ?_
        refine Rn.br2 rfl (fun q => hz ((lg_cmp_eq _ _).mp q)) ?_
        repeat refine Rn.step rfl ?_
        refine Rn.calli rfl rfl rfl (by decide) hr1 (fun z1 f1 => ?_)
        repeat refine Rn.step rfl ?_
        refine Rn.br1 rfl (fun q => hb (by rw [f1] at q; exact q)) ?_
        iterate 2 refine Rn.step rfl ?_
        exact Rn.sub (by exact ⟨rfl, rfl, rfl, rfl, rfl, rfl, trivial⟩) kk
  obtain ⟨⟨⟨s1, s2⟩, x⟩, ⟨hs, hx⟩, hgo⟩ := Rn.lpx (E := E) (hh := 3) (M := mX7_sixteenthsOut) (σ := ((Nat → Nat → Int32) × (Nat → Int32)) × Int64) (cfg := fun m w => (18, [(6, .int (nI m)), (5, .int (nI (N - 1))), (3, .long w.2), (0, .ref 0), (1, .int c), (2, .int (nI l))], [], wX w.1.1 w.1.2 t r)) (n := N) (fun m w => StX a0 v0 mn k n w.1 ∧ w.2 = sxF a mn k n c l m) hstep N 0 ((a0, v0), 0) (by omega) ⟨⟨eqO.rf, hV0⟩, rfl⟩
  dsimp only at hgo hx hs
  refine ⟨s1, s2, ?_, he0.trans hs.1.eqT, (hs.1.2 1 (by decide)).trans h1, hs.2⟩
  repeat refine Rn.step rfl ?_
  refine Rn.callv rfl rfl rfl (by decide) hr0 ?_
  repeat refine Rn.step rfl ?_
  refine Rn.calli rfl rfl rfl (by decide) r_bits (fun z1 f1 => ?_)
  rw [eB, eK] at f1
  subst f1
  iterate 3 refine Rn.step rfl ?_
  refine hgo _ ?_
  iterate 2 refine Rn.step rfl ?_
  refine Rn.br1 rfl (nI_lt (by omega) (by omega)) ?_
  refine Rn.step rfl ?_
  rw [← hx]
  exact Rn.ret rfl
/-- halved while both are even -/
def hvF : Nat → Int64 → Int64 → Int64 × Int64
  | 0, x, y => (x, y)
  | f + 1, x, y => if x - x / 2 * 2 = 0 ∧ y - y / 2 * 2 = 0 then hvF f (x / 2) (y / 2) else (x, y)
def chF (k : Nat) (x : Int64) : Int64 × Int64 := if x = 0 then (0, 1) else hvF 32 x ((1 : Int64) <<< ((4 * nI k).toInt64 &&& 63))
theorem r_chance_bad (x y z : Int32) (hb : ¬ (inB x 17 ∧ inB y (v 4) ∧ inB z 2)) : Rn E 4 mX7_chance (0, [(0, .ref 0), (1, .int x), (2, .int y), (3, .int z)], [], wX a v t r) ((some (.long (-9223372036854775806))), wX a v t r) := by
  repeat refine Rn.step rfl ?_
  refine Rn.calli rfl rfl rfl (by decide) (r_within x 17 _) (fun x0 e0 => ?_)
  refine Rn.br rfl (fun h0 => ?_) (fun h0 => ?_)
  · repeat refine Rn.step rfl ?_
    exact Rn.ret rfl
  repeat refine Rn.step rfl ?_
  refine Rn.calli rfl rfl rfl (by decide) (r_isLog y) (fun x1 e1 => ?_)
  refine Rn.br rfl (fun h1 => ?_) (fun h1 => ?_)
  · repeat refine Rn.step rfl ?_
    exact Rn.ret rfl
  repeat refine Rn.step rfl ?_
  refine Rn.calli rfl rfl rfl (by decide) (r_within z 2 _) (fun x2 e2 => ?_)
  refine Rn.br2 rfl (fun h2 => hb (⟨ib_ne0.mp (e0 ▸ h0), ib_ne0.mp (e1 ▸ h1), ib_ne0.mp (e2 ▸ h2)⟩)) ?_
  repeat refine Rn.step rfl ?_
  exact Rn.ret rfl
theorem r_chance0 {n k q : Nat} {mn sm : Nat → Nat} (hW : WfX a v n k q mn sm) (hS : SetX a v mn k n) {c l : Nat} (hc : c < 17) (hl : l < n) : AX E 4 mX7_chance [(0, .ref 0), (1, .int (nI c)), (2, .int (nI l)), (3, .int 0)] a v t r mn k n (some (.long (chF k (sxF a mn k n (nI c) l (2 ^ k))).1)) := by
  obtain ⟨⟨hn, hv4⟩, ⟨hk, hv5, -⟩, -⟩ := id hW
  obtain ⟨a', v', hr, he, h1, hV⟩ := r_sixteenths (E := E) (t := t) (r := r) hW hS (nI c) hl
  have hv5' : v' 5 = nI k := (he.2 5 (by decide)).trans hv5
  obtain ⟨X, hX⟩ : ∃ X, X = sxF a mn k n (nI c) l (2 ^ k) := ⟨_, rfl⟩
  rw [← hX] at hr ⊢
  refine ⟨a', v', ?_, he, Or.inr ⟨h1, hV⟩⟩
  repeat refine Rn.step rfl ?_
  refine Rn.calli rfl rfl rfl (by decide) (r_within (nI c) 17 _) (fun x0 e0 => ?_)
  refine Rn.br2 rfl (by rw [e0, ib_eq0]; exact fun q => q (inB_nI (n := 17) hc (by decide))) ?_
  repeat refine Rn.step rfl ?_
  refine Rn.calli rfl rfl rfl (by decide) (r_isLog (nI l)) (fun x1 e1 => ?_)
  refine Rn.br2 rfl (by rw [e1, ib_eq0]; exact fun q => q (by rw [hv4]; exact inB_nI hl (by omega))) ?_
  repeat refine Rn.step rfl ?_
  refine Rn.calli rfl rfl rfl (by decide) (r_within 0 2 _) (fun x2 e2 => ?_)
  refine Rn.br1 rfl (by rw [e2, ib_ne0]; exact by decide) ?_
  repeat refine Rn.step rfl ?_
  refine Rn.calll rfl rfl rfl (by decide) hr (fun z f => ?_)
  rw [← f]
  iterate 4 refine Rn.step rfl ?_
  unfold chF
  refine Rn.br rfl (fun h1 => ?_) (fun h1 => ?_)
  · rw [if_neg (fun q => h1 ((lg_cmp_eq _ _).mpr q))]
    iterate 5 refine Rn.step rfl ?_
    refine Rn.top hv5' ?_
    iterate 5 refine Rn.step rfl ?_
    have key : ∀ (f m : Nat) (x y : Int64), m + f = 32 → Rn E 4 mX7_chance (70, [(8, .int (nI m)), (6, .long y), (4, .long x), (0, .ref 0), (1, .int (nI c)), (2, .int (nI l)), (3, .int 0)], [], wX a' v' t r) (some (.long (hvF f x y).1), wX a' v' t r) := by
      intro f
      induction f with
      | zero =>
        intro m x y hm
        obtain rfl : m = 32 := by omega
        repeat refine Rn.step rfl ?_
        exact Rn.ret rfl
      | succ f ih =>
        intro m x y hm
        have ih := ih (m + 1)
        rw [nI_succ] at ih
        unfold hvF
        iterate 2 refine Rn.step rfl ?_
        refine Rn.br2 rfl (nle (n := 32) (by omega) (by decide)) ?_
        repeat refine Rn.step rfl ?_
        refine Rn.br rfl (fun h2 => ?_) (fun h2 => ?_)
        · rw [if_neg (fun q => h2 ((lg_cmp_eq _ _).mpr q.1))]
          repeat refine Rn.step rfl ?_
          exact Rn.ret rfl
        · repeat refine Rn.step rfl ?_
          refine Rn.br rfl (fun h3 => ?_) (fun h3 => ?_)
          · rw [if_neg (fun q => h3 ((lg_cmp_eq _ _).mpr q.2))]
            repeat refine Rn.step rfl ?_
            exact Rn.ret rfl
          · rw [if_pos ⟨(lg_cmp_eq _ _).mp (Decidable.not_not.mp h2), (lg_cmp_eq _ _).mp (Decidable.not_not.mp h3)⟩]
            iterate 10 refine Rn.step rfl ?_
            exact Rn.sub (by exact ⟨rfl, rfl, rfl, rfl, rfl, rfl, rfl, trivial⟩) (ih (x / 2) (y / 2) (by omega))
    exact key 32 0 z ((1 : Int64) <<< ((4 * nI k).toInt64 &&& 63)) rfl
  · rw [if_pos ((lg_cmp_eq _ _).mp (Decidable.not_not.mp h1))]
    repeat refine Rn.step rfl ?_
    exact Rn.ret rfl
theorem r_chance1 {n k q : Nat} {mn sm : Nat → Nat} (hW : WfX a v n k q mn sm) (hS : SetX a v mn k n) {c l : Nat} (hc : c < 17) (hl : l < n) : AX E 4 mX7_chance [(0, .ref 0), (1, .int (nI c)), (2, .int (nI l)), (3, .int 1)] a v t r mn k n (some (.long (chF k (sxF a mn k n (nI c) l (2 ^ k))).2)) := by
  obtain ⟨⟨hn, hv4⟩, ⟨hk, hv5, -⟩, -⟩ := id hW
  obtain ⟨a', v', hr, he, h1, hV⟩ := r_sixteenths (E := E) (t := t) (r := r) hW hS (nI c) hl
  have hv5' : v' 5 = nI k := (he.2 5 (by decide)).trans hv5
  obtain ⟨X, hX⟩ : ∃ X, X = sxF a mn k n (nI c) l (2 ^ k) := ⟨_, rfl⟩
  rw [← hX] at hr ⊢
  refine ⟨a', v', ?_, he, Or.inr ⟨h1, hV⟩⟩
  repeat refine Rn.step rfl ?_
  refine Rn.calli rfl rfl rfl (by decide) (r_within (nI c) 17 _) (fun x0 e0 => ?_)
  refine Rn.br2 rfl (by rw [e0, ib_eq0]; exact fun q => q (inB_nI (n := 17) hc (by decide))) ?_
  repeat refine Rn.step rfl ?_
  refine Rn.calli rfl rfl rfl (by decide) (r_isLog (nI l)) (fun x1 e1 => ?_)
  refine Rn.br2 rfl (by rw [e1, ib_eq0]; exact fun q => q (by rw [hv4]; exact inB_nI hl (by omega))) ?_
  repeat refine Rn.step rfl ?_
  refine Rn.calli rfl rfl rfl (by decide) (r_within 1 2 _) (fun x2 e2 => ?_)
  refine Rn.br1 rfl (by rw [e2, ib_ne0]; exact by decide) ?_
  repeat refine Rn.step rfl ?_
  refine Rn.calll rfl rfl rfl (by decide) hr (fun z f => ?_)
  rw [← f]
  iterate 4 refine Rn.step rfl ?_
  unfold chF
  refine Rn.br rfl (fun h1 => ?_) (fun h1 => ?_)
  · rw [if_neg (fun q => h1 ((lg_cmp_eq _ _).mpr q))]
    iterate 5 refine Rn.step rfl ?_
    refine Rn.top hv5' ?_
    iterate 5 refine Rn.step rfl ?_
    have key : ∀ (f m : Nat) (x y : Int64), m + f = 32 → Rn E 4 mX7_chance (70, [(8, .int (nI m)), (6, .long y), (4, .long x), (0, .ref 0), (1, .int (nI c)), (2, .int (nI l)), (3, .int 1)], [], wX a' v' t r) (some (.long (hvF f x y).2), wX a' v' t r) := by
      intro f
      induction f with
      | zero =>
        intro m x y hm
        obtain rfl : m = 32 := by omega
        repeat refine Rn.step rfl ?_
        exact Rn.ret rfl
      | succ f ih =>
        intro m x y hm
        have ih := ih (m + 1)
        rw [nI_succ] at ih
        unfold hvF
        iterate 2 refine Rn.step rfl ?_
        refine Rn.br2 rfl (nle (n := 32) (by omega) (by decide)) ?_
        repeat refine Rn.step rfl ?_
        refine Rn.br rfl (fun h2 => ?_) (fun h2 => ?_)
        · rw [if_neg (fun q => h2 ((lg_cmp_eq _ _).mpr q.1))]
          repeat refine Rn.step rfl ?_
          exact Rn.ret rfl
        · repeat refine Rn.step rfl ?_
          refine Rn.br rfl (fun h3 => ?_) (fun h3 => ?_)
          · rw [if_neg (fun q => h3 ((lg_cmp_eq _ _).mpr q.2))]
            repeat refine Rn.step rfl ?_
            exact Rn.ret rfl
          · rw [if_pos ⟨(lg_cmp_eq _ _).mp (Decidable.not_not.mp h2), (lg_cmp_eq _ _).mp (Decidable.not_not.mp h3)⟩]
            iterate 10 refine Rn.step rfl ?_
            exact Rn.sub (by exact ⟨rfl, rfl, rfl, rfl, rfl, rfl, rfl, trivial⟩) (ih (x / 2) (y / 2) (by omega))
    exact key 32 0 z ((1 : Int64) <<< ((4 * nI k).toInt64 &&& 63)) rfl
  · rw [if_pos ((lg_cmp_eq _ _).mp (Decidable.not_not.mp h1))]
    repeat refine Rn.step rfl ?_
    exact Rn.ret rfl
/-- the lots -/
def loN (x : Int32) : Int32 := 1103515245 * x + 12345
def loV (x : Int32) : Int32 := us x 16 - us x 16 / 10 * 10
def seS (n : Nat) (x : Int32 × (Nat → Int32)) (m : Nat) : Int32 × (Nat → Int32) := lp (fun s x => (loN x.1, upd x.2 s (if s < n then loV (loN x.1) else 0))) 0 m x
def seF (seed : Int32) (n : Nat) (f : Nat → Int32) : Nat → Int32 := (seS n (seed, f) 16).2
theorem cwl_congr {kda nu : Nat → Int32} {mn : Nat → Nat} {k : Nat} {f g : Nat → Int32} {kp : Int32} (h : ∀ s, s < 16 → f s = g s) {j : Nat} (hj : j < 384) : cwl kda nu mn k f kp j = cwl kda nu mn k g kp j := wl_ind _ _ h (fun _ _ => rfl) (fun _ _ => rfl) hj
theorem seF_ind (seed : Int32) (n : Nat) (f g : Nat → Int32) {s : Nat} (hs : s < 16) : seF seed n f s = seF seed n g s := by
  have h := lp_rel (f := fun s (x : Int32 × (Nat → Int32)) => (loN x.1, upd x.2 s (if s < n then loV (loN x.1) else 0))) (g := fun s (x : Int32 × (Nat → Int32)) => (loN x.1, upd x.2 s (if s < n then loV (loN x.1) else 0))) (fun c x y => x.1 = y.1 ∧ ∀ s, s < c → x.2 s = y.2 s) (i := 0) (j := 16) (s := (seed, f)) (u := (seed, g)) ⟨rfl, fun s hs => absurd hs (Nat.not_lt_zero _)⟩ (fun c x y _ _ hx => ⟨by rw [hx.1], fun s hs => by
    show upd x.2 c _ s = upd y.2 c _ s
    rw [hx.1]
    by_cases h : s = c
    · subst h; rw [pk_us, pk_us]
    · rw [pk_un h, pk_un h]; exact hx.2 s (by omega)⟩)
  exact h.2 s (by omega)
abbrev seD (a : Nat → Nat → Int32) (n k : Nat) (mn : Nat → Nat) (seed : Int32) (N : Nat) : dS := crn (a 10) (a 12) mn k n (a 4) (a 7) (a 8) (a 6) (cwl (a 10) (a 12) mn k (seF seed N z0) (evB k)) (evB k)
theorem r_seasons_bad (x y z : Int32) (hb : ¬ (inB y 17 ∧ inB z 2)) : Rn E 2 mX7_seasons (0, [(0, .ref 0), (1, .int x), (2, .int y), (3, .int z)], [], wX a v t r) ((some (.int (-2))), wX a v t r) := by
  repeat refine Rn.step rfl ?_
  refine Rn.calli rfl rfl rfl (by decide) (r_within y 17 _) (fun x0 e0 => ?_)
  refine Rn.br rfl (fun h0 => ?_) (fun h0 => ?_)
  · repeat refine Rn.step rfl ?_
    exact Rn.ret rfl
  repeat refine Rn.step rfl ?_
  refine Rn.calli rfl rfl rfl (by decide) (r_within z 2 _) (fun x1 e1 => ?_)
  refine Rn.br2 rfl (fun h1 => hb (⟨ib_ne0.mp (e0 ▸ h0), ib_ne0.mp (e1 ▸ h1)⟩)) ?_
  repeat refine Rn.step rfl ?_
  exact Rn.ret rfl
theorem r_seasons0 {n k q : Nat} {mn sm : Nat → Nat} (hW : WfX a v n k q mn sm) (hS : SetX a v mn k n) (x : Int32) {N : Nat} (hN : N < 17) : AX E 2 mX7_seasons [(0, .ref 0), (1, .int x), (2, .int (nI N)), (3, .int 0)] a v t r mn k n (some (.int (bcF (obF (seD a n k mn x N).1 n)))) := by
  obtain ⟨⟨hn, hv4⟩, ⟨hk, hv5, hmn⟩, -⟩ := id hW
  have eB : sh1 (v 5) - 1 = evB k := by rw [hv5]; rfl
  obtain ⟨F, hF⟩ : ∃ F, F = seF x N (a 36) := ⟨_, rfl⟩
  obtain ⟨a1, ha1⟩ : ∃ a1, a1 = va_up a 36 F := ⟨_, rfl⟩
  have hs1 : eqS a v a1 v := by rw [ha1]; exact eqS.rf.up 36 (by decide) _
  have i11 := hs1.1 11 (by decide)
  have e36 : a1 36 = F := by rw [ha1]; rfl
  obtain ⟨a2, hr2, hs2, hw2⟩ := r_oPour (E := E) (a := a1) (v := v) (t := t) (r := r) (evB k) (F := 36) (Or.inr rfl) hk hv5 (mn := mn) (by rw [i11]; exact hmn)
  rw [hs1.1 10 (by decide), hs1.1 12 (by decide), e36] at hw2
  have h2 := hs1.trans hs2
  have j11 := h2.1 11 (by decide)
  obtain ⟨a3, v3, hr3, hs3, -, -, hH⟩ := r_oRun (E := E) (a := a2) (v := v) (t := t) (r := r) (W := 27) (Or.inr rfl) (evB k) hn hv4 hk hv5 (mn := mn) (by rw [j11]; exact hmn) (wl := cwl (a 10) (a 12) mn k (seF x N z0) (evB k)) (fun j hj => by rw [hw2 j hj, hF]; exact cwl_congr (fun s hs => seF_ind _ _ _ _ hs) hj)
  rw [h2.1 10 (by decide), h2.1 12 (by decide), h2.1 4 (by decide), h2.1 7 (by decide), h2.1 8 (by decide), h2.1 6 (by decide)] at hH
  have h3 := h2.trans hs3
  have hH : HdS a3 n (seD a n k mn x N) := hH
  have hv43 : v3 4 = nI n := (h3.2 4 (by decide)).trans hv4
  refine ⟨a3, v3, ?_, h3.eqT, SetX_congr (fun j hj => h3.1 j (by intro q; simp only [List.mem_cons, List.not_mem_nil, or_false] at hj q; omega)) (h3.2 1 (by decide)) hS⟩
  repeat refine Rn.step rfl ?_
  refine Rn.calli rfl rfl rfl (by decide) (r_within (nI N) 17 _) (fun x0 e0 => ?_)
  refine Rn.br2 rfl (by rw [e0, ib_eq0]; exact fun q => q (inB_nI (n := 17) hN (by decide))) ?_
  repeat refine Rn.step rfl ?_
  refine Rn.calli rfl rfl rfl (by decide) (r_within 0 2 _) (fun x1 e1 => ?_)
  refine Rn.br1 rfl (by rw [e1, ib_ne0]; exact by decide) ?_
  iterate 4 refine Rn.step rfl ?_
  refine Rn.lp (σ := Int32 × (Nat → Int32)) (cfg := fun s y => (26, [(5, .int (nI s)), (4, .int y.1), (0, .ref 0), (1, .int x), (2, .int (nI N)), (3, .int 0)], [], wX (va_up a 36 y.2) v t r)) (f := fun s y => (loN y.1, upd y.2 s (if s < N then loV (loN y.1) else 0))) (n := 16) (fun _ _ => True) (fun s y hs _ => ⟨trivial, fun kk => ?_⟩) 16 0 (x, a 36) rfl trivial (fun y0 hy0 _ => ?_)
  · rw [nI_succ] at kk
    iterate 2 refine Rn.step rfl ?_
    refine Rn.br2 rfl (nle hs (by decide)) ?_
    iterate 11 refine Rn.step rfl ?_
    refine Rn.br rfl (fun h1 => ?_) (fun h1 => ?_)
    · rw [if_neg (fun q => absurd h1 (nle q (by omega)))] at kk
      iterate 1 refine Rn.step rfl ?_
      refine Rn.ast s rfl rfl hs (by decide) (h3 := wX (va_up a 36 (upd y.2 s 0)) v t r) rfl ?_
      iterate 2 refine Rn.step rfl ?_
      exact Rn.sub (by exact ⟨rfl, rfl, rfl, rfl, rfl, rfl, trivial⟩) kk
    · rw [if_pos (Nat.lt_of_not_le (fun q => h1 (nI_le q (by omega))))] at kk
      iterate 6 refine Rn.step rfl ?_
      refine Rn.ast s rfl rfl hs (by decide) (h3 := wX (va_up a 36 (upd y.2 s (loV (loN y.1)))) v t r) rfl ?_
      iterate 2 refine Rn.step rfl ?_
      exact Rn.sub (by exact ⟨rfl, rfl, rfl, rfl, rfl, rfl, trivial⟩) kk
  · have hy : y0.2 = F := by rw [hy0, hF]; rfl
    rw [hy, ← ha1]
    repeat refine Rn.step rfl ?_
    refine Rn.calli rfl rfl rfl (by decide) r_bits (fun z1 f1 => ?_)
    rw [eB] at f1
    subst f1
    refine Rn.callv rfl rfl rfl (by decide) hr2 ?_
    repeat refine Rn.step rfl ?_
    refine Rn.calli rfl rfl rfl (by decide) r_bits (fun z2 f2 => ?_)
    rw [eB] at f2
    subst f2
    refine Rn.callv rfl rfl rfl (by decide) hr3 ?_
    repeat refine Rn.step rfl ?_
    refine Rn.calli rfl rfl rfl (by decide) (r_outBits2 hn hv43) (fun z3 f3 => ?_)
    rw [obF_congr (fun l hl => (hH 23 l (by decide) hl).1)] at f3
    refine Rn.calli rfl rfl rfl (by decide) (r_bitCount z3 _) (fun z4 f4 => ?_)
    rw [f3] at f4
    rw [← f4]
    exact Rn.ret rfl
theorem r_seasons1 {n k q : Nat} {mn sm : Nat → Nat} (hW : WfX a v n k q mn sm) (hS : SetX a v mn k n) (x : Int32) {N : Nat} (hN : N < 17) : AX E 2 mX7_seasons [(0, .ref 0), (1, .int x), (2, .int (nI N)), (3, .int 1)] a v t r mn k n (some (.int (maF (seD a n k mn x N).2.1 n 1))) := by
  obtain ⟨⟨hn, hv4⟩, ⟨hk, hv5, hmn⟩, -⟩ := id hW
  have eB : sh1 (v 5) - 1 = evB k := by rw [hv5]; rfl
  obtain ⟨F, hF⟩ : ∃ F, F = seF x N (a 36) := ⟨_, rfl⟩
  obtain ⟨a1, ha1⟩ : ∃ a1, a1 = va_up a 36 F := ⟨_, rfl⟩
  have hs1 : eqS a v a1 v := by rw [ha1]; exact eqS.rf.up 36 (by decide) _
  have i11 := hs1.1 11 (by decide)
  have e36 : a1 36 = F := by rw [ha1]; rfl
  obtain ⟨a2, hr2, hs2, hw2⟩ := r_oPour (E := E) (a := a1) (v := v) (t := t) (r := r) (evB k) (F := 36) (Or.inr rfl) hk hv5 (mn := mn) (by rw [i11]; exact hmn)
  rw [hs1.1 10 (by decide), hs1.1 12 (by decide), e36] at hw2
  have h2 := hs1.trans hs2
  have j11 := h2.1 11 (by decide)
  obtain ⟨a3, v3, hr3, hs3, -, -, hH⟩ := r_oRun (E := E) (a := a2) (v := v) (t := t) (r := r) (W := 27) (Or.inr rfl) (evB k) hn hv4 hk hv5 (mn := mn) (by rw [j11]; exact hmn) (wl := cwl (a 10) (a 12) mn k (seF x N z0) (evB k)) (fun j hj => by rw [hw2 j hj, hF]; exact cwl_congr (fun s hs => seF_ind _ _ _ _ hs) hj)
  rw [h2.1 10 (by decide), h2.1 12 (by decide), h2.1 4 (by decide), h2.1 7 (by decide), h2.1 8 (by decide), h2.1 6 (by decide)] at hH
  have h3 := h2.trans hs3
  have hH : HdS a3 n (seD a n k mn x N) := hH
  have hv43 : v3 4 = nI n := (h3.2 4 (by decide)).trans hv4
  refine ⟨a3, v3, ?_, h3.eqT, SetX_congr (fun j hj => h3.1 j (by intro q; simp only [List.mem_cons, List.not_mem_nil, or_false] at hj q; omega)) (h3.2 1 (by decide)) hS⟩
  repeat refine Rn.step rfl ?_
  refine Rn.calli rfl rfl rfl (by decide) (r_within (nI N) 17 _) (fun x0 e0 => ?_)
  refine Rn.br2 rfl (by rw [e0, ib_eq0]; exact fun q => q (inB_nI (n := 17) hN (by decide))) ?_
  repeat refine Rn.step rfl ?_
  refine Rn.calli rfl rfl rfl (by decide) (r_within 1 2 _) (fun x1 e1 => ?_)
  refine Rn.br1 rfl (by rw [e1, ib_ne0]; exact by decide) ?_
  iterate 4 refine Rn.step rfl ?_
  refine Rn.lp (σ := Int32 × (Nat → Int32)) (cfg := fun s y => (26, [(5, .int (nI s)), (4, .int y.1), (0, .ref 0), (1, .int x), (2, .int (nI N)), (3, .int 1)], [], wX (va_up a 36 y.2) v t r)) (f := fun s y => (loN y.1, upd y.2 s (if s < N then loV (loN y.1) else 0))) (n := 16) (fun _ _ => True) (fun s y hs _ => ⟨trivial, fun kk => ?_⟩) 16 0 (x, a 36) rfl trivial (fun y0 hy0 _ => ?_)
  · rw [nI_succ] at kk
    iterate 2 refine Rn.step rfl ?_
    refine Rn.br2 rfl (nle hs (by decide)) ?_
    iterate 11 refine Rn.step rfl ?_
    refine Rn.br rfl (fun h1 => ?_) (fun h1 => ?_)
    · rw [if_neg (fun q => absurd h1 (nle q (by omega)))] at kk
      iterate 1 refine Rn.step rfl ?_
      refine Rn.ast s rfl rfl hs (by decide) (h3 := wX (va_up a 36 (upd y.2 s 0)) v t r) rfl ?_
      iterate 2 refine Rn.step rfl ?_
      exact Rn.sub (by exact ⟨rfl, rfl, rfl, rfl, rfl, rfl, trivial⟩) kk
    · rw [if_pos (Nat.lt_of_not_le (fun q => h1 (nI_le q (by omega))))] at kk
      iterate 6 refine Rn.step rfl ?_
      refine Rn.ast s rfl rfl hs (by decide) (h3 := wX (va_up a 36 (upd y.2 s (loV (loN y.1)))) v t r) rfl ?_
      iterate 2 refine Rn.step rfl ?_
      exact Rn.sub (by exact ⟨rfl, rfl, rfl, rfl, rfl, rfl, trivial⟩) kk
  · have hy : y0.2 = F := by rw [hy0, hF]; rfl
    rw [hy, ← ha1]
    repeat refine Rn.step rfl ?_
    refine Rn.calli rfl rfl rfl (by decide) r_bits (fun z1 f1 => ?_)
    rw [eB] at f1
    subst f1
    refine Rn.callv rfl rfl rfl (by decide) hr2 ?_
    repeat refine Rn.step rfl ?_
    refine Rn.calli rfl rfl rfl (by decide) r_bits (fun z2 f2 => ?_)
    rw [eB] at f2
    subst f2
    refine Rn.callv rfl rfl rfl (by decide) hr3 ?_
    repeat refine Rn.step rfl ?_
    refine Rn.calli rfl rfl rfl (by decide) (r_minAll2 hn hv43 1) (fun z3 f3 => ?_)
    rw [maF_congr (fun i l hi hl => (hH i l hi hl).2)] at f3
    rw [← f3]
    exact Rn.ret rfl
end XG
end
